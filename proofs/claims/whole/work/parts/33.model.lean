def f_X7_tapeb : Int32 × Unit :=
  ((-1 : Int32), ())
set_option maxHeartbeats 4000000 in
set_option maxRecDepth 100000 in
theorem c_X7_tapeb (l : Launch) (D : va_G) (cy : Nat → ClassId) (om : Nat → Nat) (om_thrown : Int32) (om_s : Nat → Int32) (om_kept : Nat → Int32) (om_aside : Nat → Int32) (om_isKept : Int32) (om_reaches : Nat → Int32) (om_ringOf : Nat → Int32) (om_rungOf : Nat → Int32) (om_rings : Nat → Int32) (om_ringMany : Int32) (om_paid : Nat → Int32) (om_leftOf : Nat → Int32) (om_ringPaid : Nat → Int32) (om_paidAll : Int32) (om_mosts : Nat → Int32) (om_text : Nat → Int32) (om_signs : Int32) (om_at : Int32) (om_isWrong : Int32) (om_clauses : Int32) (om_letters : Nat → Int32) (om_one : Nat → Int32) (om_two : Nat → Int32) (om_three : Nat → Int32) (om_whys : Nat → Int32) (om_backs : Nat → Int32) (om_sorts : Nat → Int32) (om_sizes : Nat → Int32) (om_items : Nat → Int64) (t : Int32) (so : Int32) (v : Int32) (hbad : f_X7_isTape t = 0) : RwI (S := Unit) l D cy yX7_tape (.code yX7_tape cX7_tape 5 (some .int)) 2 (wX7 cy om om_thrown om_s om_kept om_aside om_isKept om_reaches om_ringOf om_rungOf om_rings om_ringMany om_paid om_leftOf om_ringPaid om_paidAll om_mosts om_text om_signs om_at om_isWrong om_clauses om_letters om_one om_two om_three om_whys om_backs om_sorts om_sizes om_items) [.ref (om 0), .int t, .int so, .int v] (fun rr u => (rr, u) = f_X7_tapeb) (fun u => wX7 cy om om_thrown om_s om_kept om_aside om_isKept om_reaches om_ringOf om_rungOf om_rings om_ringMany om_paid om_leftOf om_ringPaid om_paidAll om_mosts om_text om_signs om_at om_isWrong om_clauses om_letters om_one om_two om_three om_whys om_backs om_sorts om_sizes om_items) := by
  intro sz
  refine Met.ofW (cc := cX7_tape) (maxL := 5) (ret := (some .int)) (by decide) rfl ?_
  intro pP eE s0 mM args below meth cC s₁ B hml hv
  obtain ⟨rfl, hsz, hP, hKX, hD0⟩ := hv
  have hx := B.exec
  have hb := B.bytes
  have hr := B.returns
  have hG := gw_hts (atoms_spec (ws := _) B.pre)
  have hown : s0.vm.findClass RX7 = some mM.cls := findClass_of_methodNamed B.named
  have hlocks := B.notSynchronized
  subst hsz
  have hD := hD0.self (sz := s0.heap.size)
  generalize hAe : va_A (wX7 cy om om_thrown om_s om_kept om_aside om_isKept om_reaches om_ringOf om_rungOf om_rings om_ringMany om_paid om_leftOf om_ringPaid om_paidAll om_mosts om_text om_signs om_at om_isWrong om_clauses om_letters om_one om_two om_three om_whys om_backs om_sorts om_sizes om_items) s0.heap.size = A at hD ⊢
  have hA : ∀ q : Nat, s0.heap.size ≤ q → A q := fun q h => by rw [← hAe]; exact Or.inr h
  have hS : va_S A s0.heap s0.heap [] := va_S.rf
  have hl := lv_entry ([.ref (om 0), .int t, .int so, .int v]) (n := 5) (Nat.le_of_ble_eq_true rfl)
  rw [lg_entry_eq]
  generalize (lg_sl ([.ref (om 0), .int t, .int so, .int v]) ++ List.replicate (5 - (lg_sl ([.ref (om 0), .int t, .int so, .int v])).length) Slot.unset).toArray = ls at hl ⊢
  have hl : lv_has ls 5 [(0, .ref (om 0)), (1, .int t), (2, .int so), (3, .int v)] := hl
  refine lv_iload_n hx hb dX7_tape_0 rfl (lv_at hl 1 rfl) ?_
  refine cRoS mw32_4 mw32_5 mw1_5 mw32_6 hd_X7_isTape hx hb hml hown hG hKX (c_X7_isTape l D cy t) ⟨Nat.le_of_ble_eq_true rfl, Nat.le_of_ble_eq_true rfl⟩ ⟨Nat.zero_le _, Nat.zero_le _⟩ (hP.sub [] rfl) rfl hl.1 rfl (Nat.le_of_ble_eq_true rfl) dX7_tape_1 ?_
  refine lv_if_ne (tgt := 9) hx hb dX7_tape_4 (by decide) (fun c1 => absurd hbad c1) (fun _ => ?_)
  refine lv_iconst (v := (-1 : Int32)) hx hb dX7_tape_7 (by decide) ?_
  exact W.iret (v := (-1 : Int32)) hx hb hr (fun t ht hW => ⟨⟨(-1 : Int32), (), rfl, by unfold f_X7_tapeb; rfl, by rw [ht]; exact hP, hD⟩, hS.F ht⟩) hS.2.2 dX7_tape_8
def f_X7_itemb : Int32 × Unit :=
  ((-1 : Int32), ())
set_option maxHeartbeats 4000000 in
set_option maxRecDepth 100000 in
theorem c_X7_itemb (l : Launch) (D : va_G) (cy : Nat → ClassId) (om : Nat → Nat) (om_thrown : Int32) (om_s : Nat → Int32) (om_kept : Nat → Int32) (om_aside : Nat → Int32) (om_isKept : Int32) (om_reaches : Nat → Int32) (om_ringOf : Nat → Int32) (om_rungOf : Nat → Int32) (om_rings : Nat → Int32) (om_ringMany : Int32) (om_paid : Nat → Int32) (om_leftOf : Nat → Int32) (om_ringPaid : Nat → Int32) (om_paidAll : Int32) (om_mosts : Nat → Int32) (om_text : Nat → Int32) (om_signs : Int32) (om_at : Int32) (om_isWrong : Int32) (om_clauses : Int32) (om_letters : Nat → Int32) (om_one : Nat → Int32) (om_two : Nat → Int32) (om_three : Nat → Int32) (om_whys : Nat → Int32) (om_backs : Nat → Int32) (om_sorts : Nat → Int32) (om_sizes : Nat → Int32) (om_items : Nat → Int64) (t : Int32) (i : Int32) (v : Int64) (hbad : f_X7_isTape t = 0) : RwI (S := Unit) l D cy yX7_item (.code yX7_item cX7_item 6 (some .int)) 2 (wX7 cy om om_thrown om_s om_kept om_aside om_isKept om_reaches om_ringOf om_rungOf om_rings om_ringMany om_paid om_leftOf om_ringPaid om_paidAll om_mosts om_text om_signs om_at om_isWrong om_clauses om_letters om_one om_two om_three om_whys om_backs om_sorts om_sizes om_items) [.ref (om 0), .int t, .int i, .long v] (fun rr u => (rr, u) = f_X7_itemb) (fun u => wX7 cy om om_thrown om_s om_kept om_aside om_isKept om_reaches om_ringOf om_rungOf om_rings om_ringMany om_paid om_leftOf om_ringPaid om_paidAll om_mosts om_text om_signs om_at om_isWrong om_clauses om_letters om_one om_two om_three om_whys om_backs om_sorts om_sizes om_items) := by
  intro sz
  refine Met.ofW (cc := cX7_item) (maxL := 6) (ret := (some .int)) (by decide) rfl ?_
  intro pP eE s0 mM args below meth cC s₁ B hml hv
  obtain ⟨rfl, hsz, hP, hKX, hD0⟩ := hv
  have hx := B.exec
  have hb := B.bytes
  have hr := B.returns
  have hG := gw_hts (atoms_spec (ws := _) B.pre)
  have hown : s0.vm.findClass RX7 = some mM.cls := findClass_of_methodNamed B.named
  have hlocks := B.notSynchronized
  subst hsz
  have hD := hD0.self (sz := s0.heap.size)
  generalize hAe : va_A (wX7 cy om om_thrown om_s om_kept om_aside om_isKept om_reaches om_ringOf om_rungOf om_rings om_ringMany om_paid om_leftOf om_ringPaid om_paidAll om_mosts om_text om_signs om_at om_isWrong om_clauses om_letters om_one om_two om_three om_whys om_backs om_sorts om_sizes om_items) s0.heap.size = A at hD ⊢
  have hA : ∀ q : Nat, s0.heap.size ≤ q → A q := fun q h => by rw [← hAe]; exact Or.inr h
  have hS : va_S A s0.heap s0.heap [] := va_S.rf
  have hl := lv_entry ([.ref (om 0), .int t, .int i, .long v]) (n := 6) (Nat.le_of_ble_eq_true rfl)
  rw [lg_entry_eq]
  generalize (lg_sl ([.ref (om 0), .int t, .int i, .long v]) ++ List.replicate (6 - (lg_sl ([.ref (om 0), .int t, .int i, .long v])).length) Slot.unset).toArray = ls at hl ⊢
  have hl : lv_has ls 6 [(0, .ref (om 0)), (1, .int t), (2, .int i), (3, .long v)] := hl
  refine lv_iload_n hx hb dX7_item_0 rfl (lv_at hl 1 rfl) ?_
  refine cRoS mw32_4 mw32_5 mw1_5 mw32_6 hd_X7_isTape hx hb hml hown hG hKX (c_X7_isTape l D cy t) ⟨Nat.le_of_ble_eq_true rfl, Nat.le_of_ble_eq_true rfl⟩ ⟨Nat.zero_le _, Nat.zero_le _⟩ (hP.sub [] rfl) rfl hl.1 rfl (Nat.le_of_ble_eq_true rfl) dX7_item_1 ?_
  refine lv_if_ne (tgt := 9) hx hb dX7_item_4 (by decide) (fun c1 => absurd hbad c1) (fun _ => ?_)
  refine lv_iconst (v := (-1 : Int32)) hx hb dX7_item_7 (by decide) ?_
  exact W.iret (v := (-1 : Int32)) hx hb hr (fun t ht hW => ⟨⟨(-1 : Int32), (), rfl, by unfold f_X7_itemb; rfl, by rw [ht]; exact hP, hD⟩, hS.F ht⟩) hS.2.2 dX7_item_8
def f_X7_peekb : Int64 :=
  (-9223372036854775808 : Int64)
set_option maxHeartbeats 4000000 in
set_option maxRecDepth 100000 in
theorem c_X7_peekb (l : Launch) (D : va_G) (cy : Nat → ClassId) (om : Nat → Nat) (om_thrown : Int32) (om_s : Nat → Int32) (om_kept : Nat → Int32) (om_aside : Nat → Int32) (om_isKept : Int32) (om_reaches : Nat → Int32) (om_ringOf : Nat → Int32) (om_rungOf : Nat → Int32) (om_rings : Nat → Int32) (om_ringMany : Int32) (om_paid : Nat → Int32) (om_leftOf : Nat → Int32) (om_ringPaid : Nat → Int32) (om_paidAll : Int32) (om_mosts : Nat → Int32) (om_text : Nat → Int32) (om_signs : Int32) (om_at : Int32) (om_isWrong : Int32) (om_clauses : Int32) (om_letters : Nat → Int32) (om_one : Nat → Int32) (om_two : Nat → Int32) (om_three : Nat → Int32) (om_whys : Nat → Int32) (om_backs : Nat → Int32) (om_sorts : Nat → Int32) (om_sizes : Nat → Int32) (om_items : Nat → Int64) (t : Int32) (i : Int32) (hbad : f_X7_isTape t = 0) : RoL l D cy yX7_peek (.code yX7_peek cX7_peek 3 (some .long)) 2 (wX7 cy om om_thrown om_s om_kept om_aside om_isKept om_reaches om_ringOf om_rungOf om_rings om_ringMany om_paid om_leftOf om_ringPaid om_paidAll om_mosts om_text om_signs om_at om_isWrong om_clauses om_letters om_one om_two om_three om_whys om_backs om_sorts om_sizes om_items) [.ref (om 0), .int t, .int i] (f_X7_peekb) := by
  refine Met.ofW (cc := cX7_peek) (maxL := 3) (ret := (some .long)) (by decide) rfl ?_
  intro pP eE s0 mM args below meth cC s₁ B hml hv
  obtain ⟨rfl, hP, hKX⟩ := hv
  have hx := B.exec
  have hb := B.bytes
  have hr := B.returns
  have hG := gw_hts (atoms_spec (ws := _) B.pre)
  have hown : s0.vm.findClass RX7 = some mM.cls := findClass_of_methodNamed B.named
  have hlocks := B.notSynchronized
  have hl := lv_entry ([.ref (om 0), .int t, .int i]) (n := 3) (Nat.le_of_ble_eq_true rfl)
  rw [lg_entry_eq]
  generalize (lg_sl ([.ref (om 0), .int t, .int i]) ++ List.replicate (3 - (lg_sl ([.ref (om 0), .int t, .int i])).length) Slot.unset).toArray = ls at hl ⊢
  have hl : lv_has ls 3 [(0, .ref (om 0)), (1, .int t), (2, .int i)] := hl
  refine lv_iload_n hx hb dX7_peek_0 rfl (lv_at hl 1 rfl) ?_
  refine cRoS mw32_4 mw32_5 mw1_5 mw32_6 hd_X7_isTape hx hb hml hown hG hKX (c_X7_isTape l D cy t) ⟨Nat.le_of_ble_eq_true rfl, Nat.le_of_ble_eq_true rfl⟩ ⟨Nat.zero_le _, Nat.zero_le _⟩ (hP.sub [] rfl) rfl hl.1 rfl (Nat.le_of_ble_eq_true rfl) dX7_peek_1 ?_
  refine lv_if_eq (tgt := 49) hx hb dX7_peek_4 (by decide) (fun _ => ?_) (fun c1 => absurd hbad c1)
  refine lv_ldc2 (v := (-9223372036854775808 : Int64)) hx hb hown (hG _ mw25_10) dX7_peek_49 ?_
  exact W.lret (v := (-9223372036854775808 : Int64)) hx hb hr (fun t ht hW => ⟨_, rfl, by unfold f_X7_peekb; rfl, ht⟩) (fun q hq => by cases hq) dX7_peek_52
def f_X7_judgeb : Int32 × Unit :=
  ((-1 : Int32), ())
set_option maxHeartbeats 4000000 in
set_option maxRecDepth 100000 in
theorem c_X7_judgeb (l : Launch) (D : va_G) (cy : Nat → ClassId) (om : Nat → Nat) (om_thrown : Int32) (om_s : Nat → Int32) (om_kept : Nat → Int32) (om_aside : Nat → Int32) (om_isKept : Int32) (om_reaches : Nat → Int32) (om_ringOf : Nat → Int32) (om_rungOf : Nat → Int32) (om_rings : Nat → Int32) (om_ringMany : Int32) (om_paid : Nat → Int32) (om_leftOf : Nat → Int32) (om_ringPaid : Nat → Int32) (om_paidAll : Int32) (om_mosts : Nat → Int32) (om_text : Nat → Int32) (om_signs : Int32) (om_at : Int32) (om_isWrong : Int32) (om_clauses : Int32) (om_letters : Nat → Int32) (om_one : Nat → Int32) (om_two : Nat → Int32) (om_three : Nat → Int32) (om_whys : Nat → Int32) (om_backs : Nat → Int32) (om_sorts : Nat → Int32) (om_sizes : Nat → Int32) (om_items : Nat → Int64) (t : Int32) (i : Int32) (hbad : f_X7_isTape t = 0) : RwI (S := Unit) l D cy yX7_judge (.code yX7_judge cX7_judge 6 (some .int)) 2 (wX7 cy om om_thrown om_s om_kept om_aside om_isKept om_reaches om_ringOf om_rungOf om_rings om_ringMany om_paid om_leftOf om_ringPaid om_paidAll om_mosts om_text om_signs om_at om_isWrong om_clauses om_letters om_one om_two om_three om_whys om_backs om_sorts om_sizes om_items) [.ref (om 0), .int t, .int i] (fun rr u => (rr, u) = f_X7_judgeb) (fun u => wX7 cy om om_thrown om_s om_kept om_aside om_isKept om_reaches om_ringOf om_rungOf om_rings om_ringMany om_paid om_leftOf om_ringPaid om_paidAll om_mosts om_text om_signs om_at om_isWrong om_clauses om_letters om_one om_two om_three om_whys om_backs om_sorts om_sizes om_items) := by
  intro sz
  refine Met.ofW (cc := cX7_judge) (maxL := 6) (ret := (some .int)) (by decide) rfl ?_
  intro pP eE s0 mM args below meth cC s₁ B hml hv
  obtain ⟨rfl, hsz, hP, hKX, hD0⟩ := hv
  have hx := B.exec
  have hb := B.bytes
  have hr := B.returns
  have hG := gw_hts (atoms_spec (ws := _) B.pre)
  have hown : s0.vm.findClass RX7 = some mM.cls := findClass_of_methodNamed B.named
  have hlocks := B.notSynchronized
  subst hsz
  have hD := hD0.self (sz := s0.heap.size)
  generalize hAe : va_A (wX7 cy om om_thrown om_s om_kept om_aside om_isKept om_reaches om_ringOf om_rungOf om_rings om_ringMany om_paid om_leftOf om_ringPaid om_paidAll om_mosts om_text om_signs om_at om_isWrong om_clauses om_letters om_one om_two om_three om_whys om_backs om_sorts om_sizes om_items) s0.heap.size = A at hD ⊢
  have hA : ∀ q : Nat, s0.heap.size ≤ q → A q := fun q h => by rw [← hAe]; exact Or.inr h
  have hS : va_S A s0.heap s0.heap [] := va_S.rf
  have hl := lv_entry ([.ref (om 0), .int t, .int i]) (n := 6) (Nat.le_of_ble_eq_true rfl)
  rw [lg_entry_eq]
  generalize (lg_sl ([.ref (om 0), .int t, .int i]) ++ List.replicate (6 - (lg_sl ([.ref (om 0), .int t, .int i])).length) Slot.unset).toArray = ls at hl ⊢
  have hl : lv_has ls 6 [(0, .ref (om 0)), (1, .int t), (2, .int i)] := hl
  refine lv_iload_n hx hb dX7_judge_0 rfl (lv_at hl 1 rfl) ?_
  refine cRoS mw32_4 mw32_5 mw1_5 mw32_6 hd_X7_isTape hx hb hml hown hG hKX (c_X7_isTape l D cy t) ⟨Nat.le_of_ble_eq_true rfl, Nat.le_of_ble_eq_true rfl⟩ ⟨Nat.zero_le _, Nat.zero_le _⟩ (hP.sub [] rfl) rfl hl.1 rfl (Nat.le_of_ble_eq_true rfl) dX7_judge_1 ?_
  refine lv_if_ne (tgt := 9) hx hb dX7_judge_4 (by decide) (fun c1 => absurd hbad c1) (fun _ => ?_)
  refine lv_iconst (v := (-1 : Int32)) hx hb dX7_judge_7 (by decide) ?_
  exact W.iret (v := (-1 : Int32)) hx hb hr (fun t ht hW => ⟨⟨(-1 : Int32), (), rfl, by unfold f_X7_judgeb; rfl, by rw [ht]; exact hP, hD⟩, hS.F ht⟩) hS.2.2 dX7_judge_8
def bd_X7_tapev_75 (j : Nat) (k75 : Nat) (z75 : (Nat → Int64)) : (Nat → Int64) :=
  vp_updL z75 ((60 * j) + k75) (0 : Int64)
def f_X7_tapev (om_sorts : Nat → Int32) (om_sizes : Nat → Int32) (om_items : Nat → Int64) (so : Int32) (v : Int32) (j : Nat) : Int32 × (Nat → Int32) × (Nat → Int32) × (Nat → Int64) :=
  if (f_X7_isTape (nI j)) = (0 : Int32) then ((-1 : Int32), (om_sorts, om_sizes, om_items)) else (if (f_X7_in ((so).toInt64) (-1 : Int64) (4 : Int64)) = (0 : Int32) then ((-2 : Int32), (om_sorts, om_sizes, om_items)) else (if so = (-1 : Int32) then ((1 : Int32), (upd om_sorts j so, upd om_sizes j (0 : Int32), (itr (bd_X7_tapev_75 j) 60 om_items))) else (if v ≤ (60 : Int32) then (if (0 : Int32) ≤ v then ((1 : Int32), (upd om_sorts j so, upd om_sizes j v, (itr (bd_X7_tapev_75 j) 60 om_items))) else ((-14 : Int32), (om_sorts, om_sizes, om_items))) else ((-2 : Int32), (om_sorts, om_sizes, om_items)))))
set_option maxHeartbeats 4000000 in
set_option maxRecDepth 100000 in
theorem c_X7_tapev (l : Launch) (D : va_G) (cy : Nat → ClassId) (om : Nat → Nat) (om_thrown : Int32) (om_s : Nat → Int32) (om_kept : Nat → Int32) (om_aside : Nat → Int32) (om_isKept : Int32) (om_reaches : Nat → Int32) (om_ringOf : Nat → Int32) (om_rungOf : Nat → Int32) (om_rings : Nat → Int32) (om_ringMany : Int32) (om_paid : Nat → Int32) (om_leftOf : Nat → Int32) (om_ringPaid : Nat → Int32) (om_paidAll : Int32) (om_mosts : Nat → Int32) (om_text : Nat → Int32) (om_signs : Int32) (om_at : Int32) (om_isWrong : Int32) (om_clauses : Int32) (om_letters : Nat → Int32) (om_one : Nat → Int32) (om_two : Nat → Int32) (om_three : Nat → Int32) (om_whys : Nat → Int32) (om_backs : Nat → Int32) (om_sorts : Nat → Int32) (om_sizes : Nat → Int32) (om_items : Nat → Int64) (so : Int32) (v : Int32) (j : Nat) (m : Nat) (hj6 : j < 6) (hsz : om_sizes j = nI m) (hm : m ≤ 60) : RwI (S := (Nat → Int32) × (Nat → Int32) × (Nat → Int64)) l D cy yX7_tape (.code yX7_tape cX7_tape 5 (some .int)) 2 (wX7 cy om om_thrown om_s om_kept om_aside om_isKept om_reaches om_ringOf om_rungOf om_rings om_ringMany om_paid om_leftOf om_ringPaid om_paidAll om_mosts om_text om_signs om_at om_isWrong om_clauses om_letters om_one om_two om_three om_whys om_backs om_sorts om_sizes om_items) [.ref (om 0), .int (nI j), .int so, .int v] (fun rr u => (rr, u) = f_X7_tapev om_sorts om_sizes om_items so v j) (fun u => wX7 cy om om_thrown om_s om_kept om_aside om_isKept om_reaches om_ringOf om_rungOf om_rings om_ringMany om_paid om_leftOf om_ringPaid om_paidAll om_mosts om_text om_signs om_at om_isWrong om_clauses om_letters om_one om_two om_three om_whys om_backs u.1 u.2.1 u.2.2) := by
  intro sz
  refine Met.ofW (cc := cX7_tape) (maxL := 5) (ret := (some .int)) (by decide) rfl ?_
  intro pP eE s0 mM args below meth cC s₁ B hml hv
  obtain ⟨rfl, hsz, hP, hKX, hD0⟩ := hv
  have hx := B.exec
  have hb := B.bytes
  have hr := B.returns
  have hG := gw_hts (atoms_spec (ws := _) B.pre)
  have hown : s0.vm.findClass RX7 = some mM.cls := findClass_of_methodNamed B.named
  have hlocks := B.notSynchronized
  subst hsz
  have hD := hD0.self (sz := s0.heap.size)
  generalize hAe : va_A (wX7 cy om om_thrown om_s om_kept om_aside om_isKept om_reaches om_ringOf om_rungOf om_rings om_ringMany om_paid om_leftOf om_ringPaid om_paidAll om_mosts om_text om_signs om_at om_isWrong om_clauses om_letters om_one om_two om_three om_whys om_backs om_sorts om_sizes om_items) s0.heap.size = A at hD ⊢
  have hA : ∀ q : Nat, s0.heap.size ≤ q → A q := fun q h => by rw [← hAe]; exact Or.inr h
  have hS : va_S A s0.heap s0.heap [] := va_S.rf
  have hl := lv_entry ([.ref (om 0), .int (nI j), .int so, .int v]) (n := 5) (Nat.le_of_ble_eq_true rfl)
  rw [lg_entry_eq]
  generalize (lg_sl ([.ref (om 0), .int (nI j), .int so, .int v]) ++ List.replicate (5 - (lg_sl ([.ref (om 0), .int (nI j), .int so, .int v])).length) Slot.unset).toArray = ls at hl ⊢
  have hl : lv_has ls 5 [(0, .ref (om 0)), (1, .int (nI j)), (2, .int so), (3, .int v)] := hl
  refine lv_iload_n hx hb dX7_tape_0 rfl (lv_at hl 1 rfl) ?_
  refine cRoS mw32_4 mw32_5 mw1_5 mw32_6 hd_X7_isTape hx hb hml hown hG hKX (c_X7_isTape l D cy (nI j)) ⟨Nat.le_of_ble_eq_true rfl, Nat.le_of_ble_eq_true rfl⟩ ⟨Nat.zero_le _, Nat.zero_le _⟩ (hP.sub [] rfl) rfl hl.1 rfl (Nat.le_of_ble_eq_true rfl) dX7_tape_1 ?_
  refine lv_if_ne (tgt := 9) hx hb dX7_tape_4 (by decide) (fun c1 => ?_) (fun c1 => ?_)
  · refine lv_iload_n hx hb dX7_tape_9 rfl (lv_at hl 2 rfl) ?_
    refine lv_i2l (v := ((so).toInt64)) hx hb dX7_tape_10 rfl ?_
    refine lv_ldc2 (v := (-1 : Int64)) hx hb hown (hG _ mw34_11) dX7_tape_11 ?_
    refine lv_ldc2 (v := (4 : Int64)) hx hb hown (hG _ mw34_12) dX7_tape_14 ?_
    refine cRoS mw7_3 mw7_4 mw1_5 mw7_5 hd_X7_in hx hb hml hown hG hKX (c_X7_in l D cy ((so).toInt64) (-1 : Int64) (4 : Int64)) ⟨Nat.le_of_ble_eq_true rfl, Nat.le_of_ble_eq_true rfl⟩ ⟨Nat.zero_le _, Nat.zero_le _⟩ (hP.sub [] rfl) rfl hl.1 rfl (Nat.le_of_ble_eq_true rfl) dX7_tape_17 ?_
    refine lv_if_eq (tgt := 34) hx hb dX7_tape_20 (by decide) (fun c2 => ?_) (fun c2 => ?_)
    · refine lv_bipush (v := (-2 : Int32)) hx hb dX7_tape_34 (by decide) ?_
      exact W.iret (v := (-2 : Int32)) hx hb hr (fun t ht hW => ⟨⟨(-2 : Int32), (om_sorts, om_sizes, om_items), rfl, by unfold f_X7_tapev; rw [if_neg c1, if_pos c2] <;> rfl, by rw [ht]; exact hP, hD⟩, hS.F ht⟩) hS.2.2 dX7_tape_36
    · refine lv_iload_n hx hb dX7_tape_23 rfl (lv_at hl 2 rfl) ?_
      refine lv_iconst (v := (-1 : Int32)) hx hb dX7_tape_24 (by decide) ?_
      refine lv_icmp_eq (tgt := 37) hx hb dX7_tape_25 (by decide) (fun c3 => ?_) (fun c3 => ?_)
      · refine lv_iload_n hx hb dX7_tape_37 rfl (lv_at hl 2 rfl) ?_
        refine lv_iconst (v := (-1 : Int32)) hx hb dX7_tape_38 (by decide) ?_
        refine lv_icmp_eq (tgt := 49) hx hb dX7_tape_39 (by decide) (fun _ => ?_) (fun c4 => absurd c3 c4)
        refine lv_aload_n hx hb dX7_tape_49 rfl (lv_at hl 0 rfl) ?_
        refine gf_X7_70 hx hb hG hown hKX hP 0 rfl rfl dX7_tape_50 ?_
        refine lv_iload_n hx hb dX7_tape_53 rfl (lv_at hl 1 rfl) ?_
        refine lv_iload_n hx hb dX7_tape_54 rfl (lv_at hl 2 rfl) ?_
        refine iast_n hx hb hKX hP hD hS 19 rfl rfl (by omega) (by decide) dX7_tape_55 (fun H locs hP hD hS => ?_)
        have hP : va_P D vwCl (wX7 cy om om_thrown om_s om_kept om_aside om_isKept om_reaches om_ringOf om_rungOf om_rings om_ringMany om_paid om_leftOf om_ringPaid om_paidAll om_mosts om_text om_signs om_at om_isWrong om_clauses om_letters om_one om_two om_three om_whys om_backs (upd om_sorts j so) om_sizes om_items) H := hP
        have hD : va_D A (wX7 cy om om_thrown om_s om_kept om_aside om_isKept om_reaches om_ringOf om_rungOf om_rings om_ringMany om_paid om_leftOf om_ringPaid om_paidAll om_mosts om_text om_signs om_at om_isWrong om_clauses om_letters om_one om_two om_three om_whys om_backs (upd om_sorts j so) om_sizes om_items) := hD
        refine lv_aload_n hx hb dX7_tape_56 rfl (lv_at hl 0 rfl) ?_
        refine gf_X7_73 hx hb hG hown hKX hP 0 rfl rfl dX7_tape_57 ?_
        refine lv_iload_n hx hb dX7_tape_60 rfl (lv_at hl 1 rfl) ?_
        refine lv_iload_n hx hb dX7_tape_61 rfl (lv_at hl 2 rfl) ?_
        refine lv_iconst (v := (-1 : Int32)) hx hb dX7_tape_62 (by decide) ?_
        refine lv_icmp_ne (tgt := 70) hx hb dX7_tape_63 (by decide) (fun c5 => absurd c3 c5) (fun _ => ?_)
        refine lv_iconst (v := (0 : Int32)) hx hb dX7_tape_66 (by decide) ?_
        refine lv_goto (tgt := 71) hx hb dX7_tape_67 (by decide) ?_
        refine iast_n hx hb hKX hP hD hS 20 rfl rfl (by omega) (by decide) dX7_tape_71 (fun H locs hP hD hS => ?_)
        have hP : va_P D vwCl (wX7 cy om om_thrown om_s om_kept om_aside om_isKept om_reaches om_ringOf om_rungOf om_rings om_ringMany om_paid om_leftOf om_ringPaid om_paidAll om_mosts om_text om_signs om_at om_isWrong om_clauses om_letters om_one om_two om_three om_whys om_backs (upd om_sorts j so) (upd om_sizes j (0 : Int32)) om_items) H := hP
        have hD : va_D A (wX7 cy om om_thrown om_s om_kept om_aside om_isKept om_reaches om_ringOf om_rungOf om_rings om_ringMany om_paid om_leftOf om_ringPaid om_paidAll om_mosts om_text om_signs om_at om_isWrong om_clauses om_letters om_one om_two om_three om_whys om_backs (upd om_sorts j so) (upd om_sizes j (0 : Int32)) om_items) := hD
        refine lv_iconst (v := (0 : Int32)) hx hb dX7_tape_72 (by decide) ?_
        refine lv_istore (lv' := [(4, .int (0 : Int32)), (0, .ref (om 0)), (1, .int (nI j)), (2, .int so), (3, .int v)]) hx hb dX7_tape_73 hl (by decide) rfl (fun ls hl => ?_)
        refine loopW (bd_X7_tapev_75 j) om_items 60 (fun k75 z75 => [(4, .int (nI k75)), (0, .ref (om 0)), (1, .int (nI j)), (2, .int so), (3, .int v)]) (fun k75 z75 => wX7 cy om om_thrown om_s om_kept om_aside om_isKept om_reaches om_ringOf om_rungOf om_rings om_ringMany om_paid om_leftOf om_ringPaid om_paidAll om_mosts om_text om_signs om_at om_isWrong om_clauses om_letters om_one om_two om_three om_whys om_backs (upd om_sorts j so) (upd om_sizes j (0 : Int32)) z75) hP hD hS (lv_sub hl [0, 1, 2, 3, 4] rfl) (fun k75 z75 H locs ls hk75 hz75 hP hD hS hl ih75 => ?_)
        refine lv_iload hx hb dX7_tape_75 (lv_at hl 0 rfl) ?_
        refine lv_bipush (v := (60 : Int32)) hx hb dX7_tape_77 (by decide) ?_
        refine lv_icmp_ge (tgt := 101) hx hb dX7_tape_79 (by decide) (fun c6 => ?_) (fun c6 => ?_)
        · have e_k75 : 60 = k75 := Nat.le_antisymm ((le_n (N := 60) (k := k75) rfl (by omega) (by omega)).mp c6) hk75
          subst e_k75
          refine lv_iconst (v := (1 : Int32)) hx hb dX7_tape_101 (by decide) ?_
          exact W.iret (v := (1 : Int32)) hx hb hr (fun t ht hW => ⟨⟨(1 : Int32), (upd om_sorts j so, upd om_sizes j (0 : Int32), z75), rfl, by subst hz75; unfold f_X7_tapev; rw [if_neg c1, if_neg c2, if_pos c3] <;> rfl, by rw [ht]; exact hP, hD⟩, hS.F ht⟩) hS.2.2 dX7_tape_102
        · have hlt75 : k75 < 60 := Nat.lt_of_not_le (fun qq_ => c6 ((le_n (N := 60) (k := k75) rfl (by omega) (by omega)).mpr qq_))
          refine lv_aload_n hx hb dX7_tape_82 rfl (lv_at hl 1 rfl) ?_
          refine gf_X7_76 hx hb hG hown hKX hP 0 rfl rfl dX7_tape_83 ?_
          refine lv_bipush (v := (60 : Int32)) hx hb dX7_tape_86 (by decide) ?_
          refine lv_iload_n hx hb dX7_tape_88 rfl (lv_at hl 2 rfl) ?_
          refine lv_imul hx hb dX7_tape_89 ?_
          refine topi_eq (y := nI (60 * j)) (mN rfl rfl) ?_
          refine lv_iload hx hb dX7_tape_90 (lv_at hl 0 rfl) ?_
          refine lv_iadd hx hb dX7_tape_92 ?_
          refine topi_eq (y := nI ((60 * j) + k75)) (aN rfl rfl) ?_
          refine lv_lconst (v := (0 : Int64)) hx hb dX7_tape_93 (by decide) ?_
          refine last_n hx hb hKX hP hD hS 21 rfl rfl (by omega) (by decide) dX7_tape_94 (fun H locs hP hD hS => ?_)
          have hP : va_P D vwCl (wX7 cy om om_thrown om_s om_kept om_aside om_isKept om_reaches om_ringOf om_rungOf om_rings om_ringMany om_paid om_leftOf om_ringPaid om_paidAll om_mosts om_text om_signs om_at om_isWrong om_clauses om_letters om_one om_two om_three om_whys om_backs (upd om_sorts j so) (upd om_sizes j (0 : Int32)) (vp_updL z75 ((60 * j) + k75) (0 : Int64))) H := hP
          have hD : va_D A (wX7 cy om om_thrown om_s om_kept om_aside om_isKept om_reaches om_ringOf om_rungOf om_rings om_ringMany om_paid om_leftOf om_ringPaid om_paidAll om_mosts om_text om_signs om_at om_isWrong om_clauses om_letters om_one om_two om_three om_whys om_backs (upd om_sorts j so) (upd om_sizes j (0 : Int32)) (vp_updL z75 ((60 * j) + k75) (0 : Int64))) := hD
          refine lv_iinc (v := nI (k75 + 1)) (lv' := [(4, .int (nI (k75 + 1))), (0, .ref (om 0)), (1, .int (nI j)), (2, .int so), (3, .int v)]) hx hb dX7_tape_95 hl (k := 0) rfl (nI_1 _) (by decide) rfl (fun ls hl => ?_)
          refine lv_goto (tgt := 75) hx hb dX7_tape_98 (by decide) ?_
          exact ih75 (vp_updL z75 ((60 * j) + k75) (0 : Int64)) _ _ _ hlt75 (by unfold bd_X7_tapev_75; rfl) hP hD hS (lv_sub hl [0, 1, 2, 3, 4] rfl)
      · refine lv_iload_n hx hb dX7_tape_28 rfl (lv_at hl 3 rfl) ?_
        refine lv_bipush (v := (60 : Int32)) hx hb dX7_tape_29 (by decide) ?_
        refine lv_icmp_le (tgt := 37) hx hb dX7_tape_31 (by decide) (fun c7 => ?_) (fun c7 => ?_)
        · refine lv_iload_n hx hb dX7_tape_37 rfl (lv_at hl 2 rfl) ?_
          refine lv_iconst (v := (-1 : Int32)) hx hb dX7_tape_38 (by decide) ?_
          refine lv_icmp_eq (tgt := 49) hx hb dX7_tape_39 (by decide) (fun c8 => absurd c8 c3) (fun _ => ?_)
          refine lv_iload_n hx hb dX7_tape_42 rfl (lv_at hl 3 rfl) ?_
          refine lv_if_ge (tgt := 49) hx hb dX7_tape_43 (by decide) (fun c9 => ?_) (fun c9 => ?_)
          · refine lv_aload_n hx hb dX7_tape_49 rfl (lv_at hl 0 rfl) ?_
            refine gf_X7_70 hx hb hG hown hKX hP 0 rfl rfl dX7_tape_50 ?_
            refine lv_iload_n hx hb dX7_tape_53 rfl (lv_at hl 1 rfl) ?_
            refine lv_iload_n hx hb dX7_tape_54 rfl (lv_at hl 2 rfl) ?_
            refine iast_n hx hb hKX hP hD hS 19 rfl rfl (by omega) (by decide) dX7_tape_55 (fun H locs hP hD hS => ?_)
            have hP : va_P D vwCl (wX7 cy om om_thrown om_s om_kept om_aside om_isKept om_reaches om_ringOf om_rungOf om_rings om_ringMany om_paid om_leftOf om_ringPaid om_paidAll om_mosts om_text om_signs om_at om_isWrong om_clauses om_letters om_one om_two om_three om_whys om_backs (upd om_sorts j so) om_sizes om_items) H := hP
            have hD : va_D A (wX7 cy om om_thrown om_s om_kept om_aside om_isKept om_reaches om_ringOf om_rungOf om_rings om_ringMany om_paid om_leftOf om_ringPaid om_paidAll om_mosts om_text om_signs om_at om_isWrong om_clauses om_letters om_one om_two om_three om_whys om_backs (upd om_sorts j so) om_sizes om_items) := hD
            refine lv_aload_n hx hb dX7_tape_56 rfl (lv_at hl 0 rfl) ?_
            refine gf_X7_73 hx hb hG hown hKX hP 0 rfl rfl dX7_tape_57 ?_
            refine lv_iload_n hx hb dX7_tape_60 rfl (lv_at hl 1 rfl) ?_
            refine lv_iload_n hx hb dX7_tape_61 rfl (lv_at hl 2 rfl) ?_
            refine lv_iconst (v := (-1 : Int32)) hx hb dX7_tape_62 (by decide) ?_
            refine lv_icmp_ne (tgt := 70) hx hb dX7_tape_63 (by decide) (fun _ => ?_) (fun c10 => absurd c10 c3)
            refine lv_iload_n hx hb dX7_tape_70 rfl (lv_at hl 3 rfl) ?_
            refine iast_n hx hb hKX hP hD hS 20 rfl rfl (by omega) (by decide) dX7_tape_71 (fun H locs hP hD hS => ?_)
            have hP : va_P D vwCl (wX7 cy om om_thrown om_s om_kept om_aside om_isKept om_reaches om_ringOf om_rungOf om_rings om_ringMany om_paid om_leftOf om_ringPaid om_paidAll om_mosts om_text om_signs om_at om_isWrong om_clauses om_letters om_one om_two om_three om_whys om_backs (upd om_sorts j so) (upd om_sizes j v) om_items) H := hP
            have hD : va_D A (wX7 cy om om_thrown om_s om_kept om_aside om_isKept om_reaches om_ringOf om_rungOf om_rings om_ringMany om_paid om_leftOf om_ringPaid om_paidAll om_mosts om_text om_signs om_at om_isWrong om_clauses om_letters om_one om_two om_three om_whys om_backs (upd om_sorts j so) (upd om_sizes j v) om_items) := hD
            refine lv_iconst (v := (0 : Int32)) hx hb dX7_tape_72 (by decide) ?_
            refine lv_istore (lv' := [(4, .int (0 : Int32)), (0, .ref (om 0)), (1, .int (nI j)), (2, .int so), (3, .int v)]) hx hb dX7_tape_73 hl (by decide) rfl (fun ls hl => ?_)
            refine loopW (bd_X7_tapev_75 j) om_items 60 (fun k75 z75 => [(4, .int (nI k75)), (0, .ref (om 0)), (1, .int (nI j)), (2, .int so), (3, .int v)]) (fun k75 z75 => wX7 cy om om_thrown om_s om_kept om_aside om_isKept om_reaches om_ringOf om_rungOf om_rings om_ringMany om_paid om_leftOf om_ringPaid om_paidAll om_mosts om_text om_signs om_at om_isWrong om_clauses om_letters om_one om_two om_three om_whys om_backs (upd om_sorts j so) (upd om_sizes j v) z75) hP hD hS (lv_sub hl [0, 1, 2, 3, 4] rfl) (fun k75 z75 H locs ls hk75 hz75 hP hD hS hl ih75 => ?_)
            refine lv_iload hx hb dX7_tape_75 (lv_at hl 0 rfl) ?_
            refine lv_bipush (v := (60 : Int32)) hx hb dX7_tape_77 (by decide) ?_
            refine lv_icmp_ge (tgt := 101) hx hb dX7_tape_79 (by decide) (fun c11 => ?_) (fun c11 => ?_)
            · have e_k75 : 60 = k75 := Nat.le_antisymm ((le_n (N := 60) (k := k75) rfl (by omega) (by omega)).mp c11) hk75
              subst e_k75
              refine lv_iconst (v := (1 : Int32)) hx hb dX7_tape_101 (by decide) ?_
              exact W.iret (v := (1 : Int32)) hx hb hr (fun t ht hW => ⟨⟨(1 : Int32), (upd om_sorts j so, upd om_sizes j v, z75), rfl, by subst hz75; unfold f_X7_tapev; rw [if_neg c1, if_neg c2, if_neg c3, if_pos c7, if_pos c9] <;> rfl, by rw [ht]; exact hP, hD⟩, hS.F ht⟩) hS.2.2 dX7_tape_102
            · have hlt75 : k75 < 60 := Nat.lt_of_not_le (fun qq_ => c11 ((le_n (N := 60) (k := k75) rfl (by omega) (by omega)).mpr qq_))
              refine lv_aload_n hx hb dX7_tape_82 rfl (lv_at hl 1 rfl) ?_
              refine gf_X7_76 hx hb hG hown hKX hP 0 rfl rfl dX7_tape_83 ?_
              refine lv_bipush (v := (60 : Int32)) hx hb dX7_tape_86 (by decide) ?_
              refine lv_iload_n hx hb dX7_tape_88 rfl (lv_at hl 2 rfl) ?_
              refine lv_imul hx hb dX7_tape_89 ?_
              refine topi_eq (y := nI (60 * j)) (mN rfl rfl) ?_
              refine lv_iload hx hb dX7_tape_90 (lv_at hl 0 rfl) ?_
              refine lv_iadd hx hb dX7_tape_92 ?_
              refine topi_eq (y := nI ((60 * j) + k75)) (aN rfl rfl) ?_
              refine lv_lconst (v := (0 : Int64)) hx hb dX7_tape_93 (by decide) ?_
              refine last_n hx hb hKX hP hD hS 21 rfl rfl (by omega) (by decide) dX7_tape_94 (fun H locs hP hD hS => ?_)
              have hP : va_P D vwCl (wX7 cy om om_thrown om_s om_kept om_aside om_isKept om_reaches om_ringOf om_rungOf om_rings om_ringMany om_paid om_leftOf om_ringPaid om_paidAll om_mosts om_text om_signs om_at om_isWrong om_clauses om_letters om_one om_two om_three om_whys om_backs (upd om_sorts j so) (upd om_sizes j v) (vp_updL z75 ((60 * j) + k75) (0 : Int64))) H := hP
              have hD : va_D A (wX7 cy om om_thrown om_s om_kept om_aside om_isKept om_reaches om_ringOf om_rungOf om_rings om_ringMany om_paid om_leftOf om_ringPaid om_paidAll om_mosts om_text om_signs om_at om_isWrong om_clauses om_letters om_one om_two om_three om_whys om_backs (upd om_sorts j so) (upd om_sizes j v) (vp_updL z75 ((60 * j) + k75) (0 : Int64))) := hD
              refine lv_iinc (v := nI (k75 + 1)) (lv' := [(4, .int (nI (k75 + 1))), (0, .ref (om 0)), (1, .int (nI j)), (2, .int so), (3, .int v)]) hx hb dX7_tape_95 hl (k := 0) rfl (nI_1 _) (by decide) rfl (fun ls hl => ?_)
              refine lv_goto (tgt := 75) hx hb dX7_tape_98 (by decide) ?_
              exact ih75 (vp_updL z75 ((60 * j) + k75) (0 : Int64)) _ _ _ hlt75 (by unfold bd_X7_tapev_75; rfl) hP hD hS (lv_sub hl [0, 1, 2, 3, 4] rfl)
          · refine lv_bipush (v := (-14 : Int32)) hx hb dX7_tape_46 (by decide) ?_
            exact W.iret (v := (-14 : Int32)) hx hb hr (fun t ht hW => ⟨⟨(-14 : Int32), (om_sorts, om_sizes, om_items), rfl, by unfold f_X7_tapev; rw [if_neg c1, if_neg c2, if_neg c3, if_pos c7, if_neg c9] <;> rfl, by rw [ht]; exact hP, hD⟩, hS.F ht⟩) hS.2.2 dX7_tape_48
        · refine lv_bipush (v := (-2 : Int32)) hx hb dX7_tape_34 (by decide) ?_
          exact W.iret (v := (-2 : Int32)) hx hb hr (fun t ht hW => ⟨⟨(-2 : Int32), (om_sorts, om_sizes, om_items), rfl, by unfold f_X7_tapev; rw [if_neg c1, if_neg c2, if_neg c3, if_neg c7] <;> rfl, by rw [ht]; exact hP, hD⟩, hS.F ht⟩) hS.2.2 dX7_tape_36
  · refine lv_iconst (v := (-1 : Int32)) hx hb dX7_tape_7 (by decide) ?_
    exact W.iret (v := (-1 : Int32)) hx hb hr (fun t ht hW => ⟨⟨(-1 : Int32), (om_sorts, om_sizes, om_items), rfl, by unfold f_X7_tapev; rw [if_pos c1] <;> rfl, by rw [ht]; exact hP, hD⟩, hS.F ht⟩) hS.2.2 dX7_tape_8
def f_X7_itemv (om_sorts : Nat → Int32) (om_items : Nat → Int64) (i : Int32) (v : Int64) (j : Nat) (m : Nat) : Int32 × (Nat → Int64) :=
  if (f_X7_isTape (nI j)) = (0 : Int32) then ((-1 : Int32), om_items) else (if (om_sorts j) = (-1 : Int32) then ((-11 : Int32), om_items) else (if (f_X7_in ((i).toInt64) (0 : Int64) (((nI m - (1 : Int32))).toInt64)) = (0 : Int32) then ((-13 : Int32), om_items) else (if (om_sorts j) = (0 : Int32) then ((1 : Int32), vp_updL om_items ((60 * j) + i.toNatClampNeg) ((((((v).toInt32)).toInt8.toInt32)).toInt64)) else (if (om_sorts j) = (1 : Int32) then ((1 : Int32), vp_updL om_items ((60 * j) + i.toNatClampNeg) ((((((v).toInt32)).toInt16.toInt32)).toInt64)) else (if (om_sorts j) = (2 : Int32) then ((1 : Int32), vp_updL om_items ((60 * j) + i.toNatClampNeg) ((((v).toInt32)).toInt64)) else (if (om_sorts j) = (3 : Int32) then ((1 : Int32), vp_updL om_items ((60 * j) + i.toNatClampNeg) v) else (if (lg_cmp v (0 : Int64)) = (0 : Int32) then ((1 : Int32), vp_updL om_items ((60 * j) + i.toNatClampNeg) (0 : Int64)) else ((1 : Int32), vp_updL om_items ((60 * j) + i.toNatClampNeg) (1 : Int64)))))))))
set_option maxHeartbeats 4000000 in
set_option maxRecDepth 100000 in
theorem c_X7_itemv (l : Launch) (D : va_G) (cy : Nat → ClassId) (om : Nat → Nat) (om_thrown : Int32) (om_s : Nat → Int32) (om_kept : Nat → Int32) (om_aside : Nat → Int32) (om_isKept : Int32) (om_reaches : Nat → Int32) (om_ringOf : Nat → Int32) (om_rungOf : Nat → Int32) (om_rings : Nat → Int32) (om_ringMany : Int32) (om_paid : Nat → Int32) (om_leftOf : Nat → Int32) (om_ringPaid : Nat → Int32) (om_paidAll : Int32) (om_mosts : Nat → Int32) (om_text : Nat → Int32) (om_signs : Int32) (om_at : Int32) (om_isWrong : Int32) (om_clauses : Int32) (om_letters : Nat → Int32) (om_one : Nat → Int32) (om_two : Nat → Int32) (om_three : Nat → Int32) (om_whys : Nat → Int32) (om_backs : Nat → Int32) (om_sorts : Nat → Int32) (om_sizes : Nat → Int32) (om_items : Nat → Int64) (i : Int32) (v : Int64) (j : Nat) (m : Nat) (hj6 : j < 6) (hsz : om_sizes j = nI m) (hm : m ≤ 60) : RwI (S := (Nat → Int64)) l D cy yX7_item (.code yX7_item cX7_item 6 (some .int)) 2 (wX7 cy om om_thrown om_s om_kept om_aside om_isKept om_reaches om_ringOf om_rungOf om_rings om_ringMany om_paid om_leftOf om_ringPaid om_paidAll om_mosts om_text om_signs om_at om_isWrong om_clauses om_letters om_one om_two om_three om_whys om_backs om_sorts om_sizes om_items) [.ref (om 0), .int (nI j), .int i, .long v] (fun rr u => (rr, u) = f_X7_itemv om_sorts om_items i v j m) (fun u => wX7 cy om om_thrown om_s om_kept om_aside om_isKept om_reaches om_ringOf om_rungOf om_rings om_ringMany om_paid om_leftOf om_ringPaid om_paidAll om_mosts om_text om_signs om_at om_isWrong om_clauses om_letters om_one om_two om_three om_whys om_backs om_sorts om_sizes u) := by
  intro sz
  refine Met.ofW (cc := cX7_item) (maxL := 6) (ret := (some .int)) (by decide) rfl ?_
  intro pP eE s0 mM args below meth cC s₁ B hml hv
  obtain ⟨rfl, hsz, hP, hKX, hD0⟩ := hv
  have hx := B.exec
  have hb := B.bytes
  have hr := B.returns
  have hG := gw_hts (atoms_spec (ws := _) B.pre)
  have hown : s0.vm.findClass RX7 = some mM.cls := findClass_of_methodNamed B.named
  have hlocks := B.notSynchronized
  subst hsz
  have hD := hD0.self (sz := s0.heap.size)
  generalize hAe : va_A (wX7 cy om om_thrown om_s om_kept om_aside om_isKept om_reaches om_ringOf om_rungOf om_rings om_ringMany om_paid om_leftOf om_ringPaid om_paidAll om_mosts om_text om_signs om_at om_isWrong om_clauses om_letters om_one om_two om_three om_whys om_backs om_sorts om_sizes om_items) s0.heap.size = A at hD ⊢
  have hA : ∀ q : Nat, s0.heap.size ≤ q → A q := fun q h => by rw [← hAe]; exact Or.inr h
  have hS : va_S A s0.heap s0.heap [] := va_S.rf
  have hl := lv_entry ([.ref (om 0), .int (nI j), .int i, .long v]) (n := 6) (Nat.le_of_ble_eq_true rfl)
  rw [lg_entry_eq]
  generalize (lg_sl ([.ref (om 0), .int (nI j), .int i, .long v]) ++ List.replicate (6 - (lg_sl ([.ref (om 0), .int (nI j), .int i, .long v])).length) Slot.unset).toArray = ls at hl ⊢
  have hl : lv_has ls 6 [(0, .ref (om 0)), (1, .int (nI j)), (2, .int i), (3, .long v)] := hl
  refine lv_iload_n hx hb dX7_item_0 rfl (lv_at hl 1 rfl) ?_
  refine cRoS mw32_4 mw32_5 mw1_5 mw32_6 hd_X7_isTape hx hb hml hown hG hKX (c_X7_isTape l D cy (nI j)) ⟨Nat.le_of_ble_eq_true rfl, Nat.le_of_ble_eq_true rfl⟩ ⟨Nat.zero_le _, Nat.zero_le _⟩ (hP.sub [] rfl) rfl hl.1 rfl (Nat.le_of_ble_eq_true rfl) dX7_item_1 ?_
  refine lv_if_ne (tgt := 9) hx hb dX7_item_4 (by decide) (fun c1 => ?_) (fun c1 => ?_)
  · refine lv_aload_n hx hb dX7_item_9 rfl (lv_at hl 0 rfl) ?_
    refine gf_X7_70 hx hb hG hown hKX hP 0 rfl rfl dX7_item_10 ?_
    refine lv_iload_n hx hb dX7_item_13 rfl (lv_at hl 1 rfl) ?_
    refine iald_n hx hb hKX hP 19 rfl rfl (by omega) (by decide) dX7_item_14 ?_
    refine lv_iconst (v := (-1 : Int32)) hx hb dX7_item_15 (by decide) ?_
    refine lv_icmp_ne (tgt := 22) hx hb dX7_item_16 (by decide) (fun c2 => ?_) (fun c2 => ?_)
    · refine lv_iload_n hx hb dX7_item_22 rfl (lv_at hl 2 rfl) ?_
      refine lv_i2l (v := ((i).toInt64)) hx hb dX7_item_23 rfl ?_
      refine lv_lconst (v := (0 : Int64)) hx hb dX7_item_24 (by decide) ?_
      refine lv_aload_n hx hb dX7_item_25 rfl (lv_at hl 0 rfl) ?_
      refine gf_X7_73 hx hb hG hown hKX hP 0 rfl rfl dX7_item_26 ?_
      refine lv_iload_n hx hb dX7_item_29 rfl (lv_at hl 1 rfl) ?_
      refine iald_v hx hb hKX hP 20 rfl rfl (by omega) (by decide) hsz dX7_item_30 ?_
      refine lv_iconst (v := (1 : Int32)) hx hb dX7_item_31 (by decide) ?_
      refine lv_isub hx hb dX7_item_32 ?_
      refine lv_i2l (v := (((nI m - (1 : Int32))).toInt64)) hx hb dX7_item_33 rfl ?_
      refine cRoS mw7_3 mw7_4 mw1_5 mw7_5 hd_X7_in hx hb hml hown hG hKX (c_X7_in l D cy ((i).toInt64) (0 : Int64) (((nI m - (1 : Int32))).toInt64)) ⟨Nat.le_of_ble_eq_true rfl, Nat.le_of_ble_eq_true rfl⟩ ⟨Nat.zero_le _, Nat.zero_le _⟩ (hP.sub [] rfl) rfl hl.1 rfl (Nat.le_of_ble_eq_true rfl) dX7_item_34 ?_
      refine lv_if_ne (tgt := 43) hx hb dX7_item_37 (by decide) (fun c3 => ?_) (fun c3 => ?_)
      · obtain ⟨j37, hj37, hlj37, rfl⟩ := inN_of (n := m) (by omega) c3
        refine lv_aload_n hx hb dX7_item_43 rfl (lv_at hl 0 rfl) ?_
        refine gf_X7_70 hx hb hG hown hKX hP 0 rfl rfl dX7_item_44 ?_
        refine lv_iload_n hx hb dX7_item_47 rfl (lv_at hl 1 rfl) ?_
        refine iald_n hx hb hKX hP 19 rfl rfl (by omega) (by decide) dX7_item_48 ?_
        refine lv_istore (lv' := [(5, .int (om_sorts j)), (0, .ref (om 0)), (1, .int (nI j)), (2, .int (nI j37)), (3, .long v)]) hx hb dX7_item_49 hl (by decide) rfl (fun ls hl => ?_)
        refine lv_aload_n hx hb dX7_item_51 rfl (lv_at hl 1 rfl) ?_
        refine gf_X7_76 hx hb hG hown hKX hP 0 rfl rfl dX7_item_52 ?_
        refine lv_bipush (v := (60 : Int32)) hx hb dX7_item_55 (by decide) ?_
        refine lv_iload_n hx hb dX7_item_57 rfl (lv_at hl 2 rfl) ?_
        refine lv_imul hx hb dX7_item_58 ?_
        refine topi_eq (y := nI (60 * j)) (mN rfl rfl) ?_
        refine lv_iload_n hx hb dX7_item_59 rfl (lv_at hl 3 rfl) ?_
        refine lv_iadd hx hb dX7_item_60 ?_
        refine topi_eq (y := nI ((60 * j) + j37)) (aN rfl rfl) ?_
        refine lv_iload hx hb dX7_item_61 (lv_at hl 0 rfl) ?_
        refine lv_if_ne (tgt := 73) hx hb dX7_item_63 (by decide) (fun c4 => ?_) (fun c4 => ?_)
        · refine lv_iload hx hb dX7_item_73 (lv_at hl 0 rfl) ?_
          refine lv_iconst (v := (1 : Int32)) hx hb dX7_item_75 (by decide) ?_
          refine lv_icmp_ne (tgt := 86) hx hb dX7_item_76 (by decide) (fun c5 => ?_) (fun c5 => ?_)
          · refine lv_iload hx hb dX7_item_86 (lv_at hl 0 rfl) ?_
            refine lv_iconst (v := (2 : Int32)) hx hb dX7_item_88 (by decide) ?_
            refine lv_icmp_ne (tgt := 98) hx hb dX7_item_89 (by decide) (fun c6 => ?_) (fun c6 => ?_)
            · refine lv_iload hx hb dX7_item_98 (lv_at hl 0 rfl) ?_
              refine lv_iconst (v := (3 : Int32)) hx hb dX7_item_100 (by decide) ?_
              refine lv_icmp_ne (tgt := 108) hx hb dX7_item_101 (by decide) (fun c7 => ?_) (fun c7 => ?_)
              · refine lv_lload_n hx hb dX7_item_108 rfl (lv_at hl 4 rfl) ?_
                refine lv_lconst (v := (0 : Int64)) hx hb dX7_item_109 (by decide) ?_
                refine W.lcmp hx hb dX7_item_110 ?_
                refine lv_if_eq (tgt := 118) hx hb dX7_item_111 (by decide) (fun c8 => ?_) (fun c8 => ?_)
                · refine lv_lconst (v := (0 : Int64)) hx hb dX7_item_118 (by decide) ?_
                  refine last_n hx hb hKX hP hD hS 21 rfl rfl (by omega) (by decide) dX7_item_119 (fun H locs hP hD hS => ?_)
                  have hP : va_P D vwCl (wX7 cy om om_thrown om_s om_kept om_aside om_isKept om_reaches om_ringOf om_rungOf om_rings om_ringMany om_paid om_leftOf om_ringPaid om_paidAll om_mosts om_text om_signs om_at om_isWrong om_clauses om_letters om_one om_two om_three om_whys om_backs om_sorts om_sizes (vp_updL om_items ((60 * j) + j37) (0 : Int64))) H := hP
                  have hD : va_D A (wX7 cy om om_thrown om_s om_kept om_aside om_isKept om_reaches om_ringOf om_rungOf om_rings om_ringMany om_paid om_leftOf om_ringPaid om_paidAll om_mosts om_text om_signs om_at om_isWrong om_clauses om_letters om_one om_two om_three om_whys om_backs om_sorts om_sizes (vp_updL om_items ((60 * j) + j37) (0 : Int64))) := hD
                  refine lv_iconst (v := (1 : Int32)) hx hb dX7_item_120 (by decide) ?_
                  exact W.iret (v := (1 : Int32)) hx hb hr (fun t ht hW => ⟨⟨(1 : Int32), vp_updL om_items ((60 * j) + j37) (0 : Int64), rfl, by unfold f_X7_itemv; (try simp only [hj37]); rw [if_neg c1, if_neg c2, if_neg c3, if_neg c4, if_neg c5, if_neg c6, if_neg c7, if_pos c8] <;> rfl, by rw [ht]; exact hP, hD⟩, hS.F ht⟩) hS.2.2 dX7_item_121
                · refine lv_lconst (v := (1 : Int64)) hx hb dX7_item_114 (by decide) ?_
                  refine lv_goto (tgt := 119) hx hb dX7_item_115 (by decide) ?_
                  refine last_n hx hb hKX hP hD hS 21 rfl rfl (by omega) (by decide) dX7_item_119 (fun H locs hP hD hS => ?_)
                  have hP : va_P D vwCl (wX7 cy om om_thrown om_s om_kept om_aside om_isKept om_reaches om_ringOf om_rungOf om_rings om_ringMany om_paid om_leftOf om_ringPaid om_paidAll om_mosts om_text om_signs om_at om_isWrong om_clauses om_letters om_one om_two om_three om_whys om_backs om_sorts om_sizes (vp_updL om_items ((60 * j) + j37) (1 : Int64))) H := hP
                  have hD : va_D A (wX7 cy om om_thrown om_s om_kept om_aside om_isKept om_reaches om_ringOf om_rungOf om_rings om_ringMany om_paid om_leftOf om_ringPaid om_paidAll om_mosts om_text om_signs om_at om_isWrong om_clauses om_letters om_one om_two om_three om_whys om_backs om_sorts om_sizes (vp_updL om_items ((60 * j) + j37) (1 : Int64))) := hD
                  refine lv_iconst (v := (1 : Int32)) hx hb dX7_item_120 (by decide) ?_
                  exact W.iret (v := (1 : Int32)) hx hb hr (fun t ht hW => ⟨⟨(1 : Int32), vp_updL om_items ((60 * j) + j37) (1 : Int64), rfl, by unfold f_X7_itemv; (try simp only [hj37]); rw [if_neg c1, if_neg c2, if_neg c3, if_neg c4, if_neg c5, if_neg c6, if_neg c7, if_neg c8] <;> rfl, by rw [ht]; exact hP, hD⟩, hS.F ht⟩) hS.2.2 dX7_item_121
              · refine lv_lload_n hx hb dX7_item_104 rfl (lv_at hl 4 rfl) ?_
                refine lv_goto (tgt := 119) hx hb dX7_item_105 (by decide) ?_
                refine last_n hx hb hKX hP hD hS 21 rfl rfl (by omega) (by decide) dX7_item_119 (fun H locs hP hD hS => ?_)
                have hP : va_P D vwCl (wX7 cy om om_thrown om_s om_kept om_aside om_isKept om_reaches om_ringOf om_rungOf om_rings om_ringMany om_paid om_leftOf om_ringPaid om_paidAll om_mosts om_text om_signs om_at om_isWrong om_clauses om_letters om_one om_two om_three om_whys om_backs om_sorts om_sizes (vp_updL om_items ((60 * j) + j37) v)) H := hP
                have hD : va_D A (wX7 cy om om_thrown om_s om_kept om_aside om_isKept om_reaches om_ringOf om_rungOf om_rings om_ringMany om_paid om_leftOf om_ringPaid om_paidAll om_mosts om_text om_signs om_at om_isWrong om_clauses om_letters om_one om_two om_three om_whys om_backs om_sorts om_sizes (vp_updL om_items ((60 * j) + j37) v)) := hD
                refine lv_iconst (v := (1 : Int32)) hx hb dX7_item_120 (by decide) ?_
                exact W.iret (v := (1 : Int32)) hx hb hr (fun t ht hW => ⟨⟨(1 : Int32), vp_updL om_items ((60 * j) + j37) v, rfl, by unfold f_X7_itemv; (try simp only [hj37]); rw [if_neg c1, if_neg c2, if_neg c3, if_neg c4, if_neg c5, if_neg c6, if_pos c7] <;> rfl, by rw [ht]; exact hP, hD⟩, hS.F ht⟩) hS.2.2 dX7_item_121
            · refine lv_lload_n hx hb dX7_item_92 rfl (lv_at hl 4 rfl) ?_
              refine lv_l2i (v := ((v).toInt32)) hx hb dX7_item_93 rfl ?_
              refine lv_i2l (v := ((((v).toInt32)).toInt64)) hx hb dX7_item_94 rfl ?_
              refine lv_goto (tgt := 119) hx hb dX7_item_95 (by decide) ?_
              refine last_n hx hb hKX hP hD hS 21 rfl rfl (by omega) (by decide) dX7_item_119 (fun H locs hP hD hS => ?_)
              have hP : va_P D vwCl (wX7 cy om om_thrown om_s om_kept om_aside om_isKept om_reaches om_ringOf om_rungOf om_rings om_ringMany om_paid om_leftOf om_ringPaid om_paidAll om_mosts om_text om_signs om_at om_isWrong om_clauses om_letters om_one om_two om_three om_whys om_backs om_sorts om_sizes (vp_updL om_items ((60 * j) + j37) ((((v).toInt32)).toInt64))) H := hP
              have hD : va_D A (wX7 cy om om_thrown om_s om_kept om_aside om_isKept om_reaches om_ringOf om_rungOf om_rings om_ringMany om_paid om_leftOf om_ringPaid om_paidAll om_mosts om_text om_signs om_at om_isWrong om_clauses om_letters om_one om_two om_three om_whys om_backs om_sorts om_sizes (vp_updL om_items ((60 * j) + j37) ((((v).toInt32)).toInt64))) := hD
              refine lv_iconst (v := (1 : Int32)) hx hb dX7_item_120 (by decide) ?_
              exact W.iret (v := (1 : Int32)) hx hb hr (fun t ht hW => ⟨⟨(1 : Int32), vp_updL om_items ((60 * j) + j37) ((((v).toInt32)).toInt64), rfl, by unfold f_X7_itemv; (try simp only [hj37]); rw [if_neg c1, if_neg c2, if_neg c3, if_neg c4, if_neg c5, if_pos c6] <;> rfl, by rw [ht]; exact hP, hD⟩, hS.F ht⟩) hS.2.2 dX7_item_121
          · refine lv_lload_n hx hb dX7_item_79 rfl (lv_at hl 4 rfl) ?_
            refine lv_l2i (v := ((v).toInt32)) hx hb dX7_item_80 rfl ?_
            refine lv_i2s (v := ((((v).toInt32)).toInt16.toInt32)) hx hb dX7_item_81 rfl ?_
            refine lv_i2l (v := ((((((v).toInt32)).toInt16.toInt32)).toInt64)) hx hb dX7_item_82 rfl ?_
            refine lv_goto (tgt := 119) hx hb dX7_item_83 (by decide) ?_
            refine last_n hx hb hKX hP hD hS 21 rfl rfl (by omega) (by decide) dX7_item_119 (fun H locs hP hD hS => ?_)
            have hP : va_P D vwCl (wX7 cy om om_thrown om_s om_kept om_aside om_isKept om_reaches om_ringOf om_rungOf om_rings om_ringMany om_paid om_leftOf om_ringPaid om_paidAll om_mosts om_text om_signs om_at om_isWrong om_clauses om_letters om_one om_two om_three om_whys om_backs om_sorts om_sizes (vp_updL om_items ((60 * j) + j37) ((((((v).toInt32)).toInt16.toInt32)).toInt64))) H := hP
            have hD : va_D A (wX7 cy om om_thrown om_s om_kept om_aside om_isKept om_reaches om_ringOf om_rungOf om_rings om_ringMany om_paid om_leftOf om_ringPaid om_paidAll om_mosts om_text om_signs om_at om_isWrong om_clauses om_letters om_one om_two om_three om_whys om_backs om_sorts om_sizes (vp_updL om_items ((60 * j) + j37) ((((((v).toInt32)).toInt16.toInt32)).toInt64))) := hD
            refine lv_iconst (v := (1 : Int32)) hx hb dX7_item_120 (by decide) ?_
            exact W.iret (v := (1 : Int32)) hx hb hr (fun t ht hW => ⟨⟨(1 : Int32), vp_updL om_items ((60 * j) + j37) ((((((v).toInt32)).toInt16.toInt32)).toInt64), rfl, by unfold f_X7_itemv; (try simp only [hj37]); rw [if_neg c1, if_neg c2, if_neg c3, if_neg c4, if_pos c5] <;> rfl, by rw [ht]; exact hP, hD⟩, hS.F ht⟩) hS.2.2 dX7_item_121
        · refine lv_lload_n hx hb dX7_item_66 rfl (lv_at hl 4 rfl) ?_
          refine lv_l2i (v := ((v).toInt32)) hx hb dX7_item_67 rfl ?_
          refine lv_i2b (v := ((((v).toInt32)).toInt8.toInt32)) hx hb dX7_item_68 rfl ?_
          refine lv_i2l (v := ((((((v).toInt32)).toInt8.toInt32)).toInt64)) hx hb dX7_item_69 rfl ?_
          refine lv_goto (tgt := 119) hx hb dX7_item_70 (by decide) ?_
          refine last_n hx hb hKX hP hD hS 21 rfl rfl (by omega) (by decide) dX7_item_119 (fun H locs hP hD hS => ?_)
          have hP : va_P D vwCl (wX7 cy om om_thrown om_s om_kept om_aside om_isKept om_reaches om_ringOf om_rungOf om_rings om_ringMany om_paid om_leftOf om_ringPaid om_paidAll om_mosts om_text om_signs om_at om_isWrong om_clauses om_letters om_one om_two om_three om_whys om_backs om_sorts om_sizes (vp_updL om_items ((60 * j) + j37) ((((((v).toInt32)).toInt8.toInt32)).toInt64))) H := hP
          have hD : va_D A (wX7 cy om om_thrown om_s om_kept om_aside om_isKept om_reaches om_ringOf om_rungOf om_rings om_ringMany om_paid om_leftOf om_ringPaid om_paidAll om_mosts om_text om_signs om_at om_isWrong om_clauses om_letters om_one om_two om_three om_whys om_backs om_sorts om_sizes (vp_updL om_items ((60 * j) + j37) ((((((v).toInt32)).toInt8.toInt32)).toInt64))) := hD
          refine lv_iconst (v := (1 : Int32)) hx hb dX7_item_120 (by decide) ?_
          exact W.iret (v := (1 : Int32)) hx hb hr (fun t ht hW => ⟨⟨(1 : Int32), vp_updL om_items ((60 * j) + j37) ((((((v).toInt32)).toInt8.toInt32)).toInt64), rfl, by unfold f_X7_itemv; (try simp only [hj37]); rw [if_neg c1, if_neg c2, if_neg c3, if_pos c4] <;> rfl, by rw [ht]; exact hP, hD⟩, hS.F ht⟩) hS.2.2 dX7_item_121
      · refine lv_bipush (v := (-13 : Int32)) hx hb dX7_item_40 (by decide) ?_
        exact W.iret (v := (-13 : Int32)) hx hb hr (fun t ht hW => ⟨⟨(-13 : Int32), om_items, rfl, by unfold f_X7_itemv; rw [if_neg c1, if_neg c2, if_pos c3] <;> rfl, by rw [ht]; exact hP, hD⟩, hS.F ht⟩) hS.2.2 dX7_item_42
    · refine lv_bipush (v := (-11 : Int32)) hx hb dX7_item_19 (by decide) ?_
      exact W.iret (v := (-11 : Int32)) hx hb hr (fun t ht hW => ⟨⟨(-11 : Int32), om_items, rfl, by unfold f_X7_itemv; rw [if_neg c1, if_pos c2] <;> rfl, by rw [ht]; exact hP, hD⟩, hS.F ht⟩) hS.2.2 dX7_item_21
  · refine lv_iconst (v := (-1 : Int32)) hx hb dX7_item_7 (by decide) ?_
    exact W.iret (v := (-1 : Int32)) hx hb hr (fun t ht hW => ⟨⟨(-1 : Int32), om_items, rfl, by unfold f_X7_itemv; rw [if_pos c1] <;> rfl, by rw [ht]; exact hP, hD⟩, hS.F ht⟩) hS.2.2 dX7_item_8
def f_X7_peekv (om_sorts : Nat → Int32) (om_items : Nat → Int64) (i : Int32) (j : Nat) (m : Nat) : Int64 :=
  if (f_X7_isTape (nI j)) = (0 : Int32) then (-9223372036854775808 : Int64) else (if (om_sorts j) = (-1 : Int32) then (-9223372036854775808 : Int64) else (if (f_X7_in ((i).toInt64) (0 : Int64) (((nI m - (1 : Int32))).toInt64)) = (0 : Int32) then (-9223372036854775808 : Int64) else (om_items ((60 * j) + i.toNatClampNeg))))
set_option maxHeartbeats 4000000 in
set_option maxRecDepth 100000 in
theorem c_X7_peekv (l : Launch) (D : va_G) (cy : Nat → ClassId) (om : Nat → Nat) (om_thrown : Int32) (om_s : Nat → Int32) (om_kept : Nat → Int32) (om_aside : Nat → Int32) (om_isKept : Int32) (om_reaches : Nat → Int32) (om_ringOf : Nat → Int32) (om_rungOf : Nat → Int32) (om_rings : Nat → Int32) (om_ringMany : Int32) (om_paid : Nat → Int32) (om_leftOf : Nat → Int32) (om_ringPaid : Nat → Int32) (om_paidAll : Int32) (om_mosts : Nat → Int32) (om_text : Nat → Int32) (om_signs : Int32) (om_at : Int32) (om_isWrong : Int32) (om_clauses : Int32) (om_letters : Nat → Int32) (om_one : Nat → Int32) (om_two : Nat → Int32) (om_three : Nat → Int32) (om_whys : Nat → Int32) (om_backs : Nat → Int32) (om_sorts : Nat → Int32) (om_sizes : Nat → Int32) (om_items : Nat → Int64) (i : Int32) (j : Nat) (m : Nat) (hj6 : j < 6) (hsz : om_sizes j = nI m) (hm : m ≤ 60) : RoL l D cy yX7_peek (.code yX7_peek cX7_peek 3 (some .long)) 2 (wX7 cy om om_thrown om_s om_kept om_aside om_isKept om_reaches om_ringOf om_rungOf om_rings om_ringMany om_paid om_leftOf om_ringPaid om_paidAll om_mosts om_text om_signs om_at om_isWrong om_clauses om_letters om_one om_two om_three om_whys om_backs om_sorts om_sizes om_items) [.ref (om 0), .int (nI j), .int i] (f_X7_peekv om_sorts om_items i j m) := by
  refine Met.ofW (cc := cX7_peek) (maxL := 3) (ret := (some .long)) (by decide) rfl ?_
  intro pP eE s0 mM args below meth cC s₁ B hml hv
  obtain ⟨rfl, hP, hKX⟩ := hv
  have hx := B.exec
  have hb := B.bytes
  have hr := B.returns
  have hG := gw_hts (atoms_spec (ws := _) B.pre)
  have hown : s0.vm.findClass RX7 = some mM.cls := findClass_of_methodNamed B.named
  have hlocks := B.notSynchronized
  have hl := lv_entry ([.ref (om 0), .int (nI j), .int i]) (n := 3) (Nat.le_of_ble_eq_true rfl)
  rw [lg_entry_eq]
  generalize (lg_sl ([.ref (om 0), .int (nI j), .int i]) ++ List.replicate (3 - (lg_sl ([.ref (om 0), .int (nI j), .int i])).length) Slot.unset).toArray = ls at hl ⊢
  have hl : lv_has ls 3 [(0, .ref (om 0)), (1, .int (nI j)), (2, .int i)] := hl
  refine lv_iload_n hx hb dX7_peek_0 rfl (lv_at hl 1 rfl) ?_
  refine cRoS mw32_4 mw32_5 mw1_5 mw32_6 hd_X7_isTape hx hb hml hown hG hKX (c_X7_isTape l D cy (nI j)) ⟨Nat.le_of_ble_eq_true rfl, Nat.le_of_ble_eq_true rfl⟩ ⟨Nat.zero_le _, Nat.zero_le _⟩ (hP.sub [] rfl) rfl hl.1 rfl (Nat.le_of_ble_eq_true rfl) dX7_peek_1 ?_
  refine lv_if_eq (tgt := 49) hx hb dX7_peek_4 (by decide) (fun c1 => ?_) (fun c1 => ?_)
  · refine lv_ldc2 (v := (-9223372036854775808 : Int64)) hx hb hown (hG _ mw25_10) dX7_peek_49 ?_
    exact W.lret (v := (-9223372036854775808 : Int64)) hx hb hr (fun t ht hW => ⟨_, rfl, by unfold f_X7_peekv; rw [if_pos c1] <;> rfl, ht⟩) (fun q hq => by cases hq) dX7_peek_52
  · refine lv_aload_n hx hb dX7_peek_7 rfl (lv_at hl 0 rfl) ?_
    refine gf_X7_70 hx hb hG hown hKX hP 0 rfl rfl dX7_peek_8 ?_
    refine lv_iload_n hx hb dX7_peek_11 rfl (lv_at hl 1 rfl) ?_
    refine iald_n hx hb hKX hP 19 rfl rfl (by omega) (by decide) dX7_peek_12 ?_
    refine lv_iconst (v := (-1 : Int32)) hx hb dX7_peek_13 (by decide) ?_
    refine lv_icmp_eq (tgt := 49) hx hb dX7_peek_14 (by decide) (fun c2 => ?_) (fun c2 => ?_)
    · refine lv_ldc2 (v := (-9223372036854775808 : Int64)) hx hb hown (hG _ mw25_10) dX7_peek_49 ?_
      exact W.lret (v := (-9223372036854775808 : Int64)) hx hb hr (fun t ht hW => ⟨_, rfl, by unfold f_X7_peekv; rw [if_neg c1, if_pos c2] <;> rfl, ht⟩) (fun q hq => by cases hq) dX7_peek_52
    · refine lv_iload_n hx hb dX7_peek_17 rfl (lv_at hl 2 rfl) ?_
      refine lv_i2l (v := ((i).toInt64)) hx hb dX7_peek_18 rfl ?_
      refine lv_lconst (v := (0 : Int64)) hx hb dX7_peek_19 (by decide) ?_
      refine lv_aload_n hx hb dX7_peek_20 rfl (lv_at hl 0 rfl) ?_
      refine gf_X7_73 hx hb hG hown hKX hP 0 rfl rfl dX7_peek_21 ?_
      refine lv_iload_n hx hb dX7_peek_24 rfl (lv_at hl 1 rfl) ?_
      refine iald_v hx hb hKX hP 20 rfl rfl (by omega) (by decide) hsz dX7_peek_25 ?_
      refine lv_iconst (v := (1 : Int32)) hx hb dX7_peek_26 (by decide) ?_
      refine lv_isub hx hb dX7_peek_27 ?_
      refine lv_i2l (v := (((nI m - (1 : Int32))).toInt64)) hx hb dX7_peek_28 rfl ?_
      refine cRoS mw7_3 mw7_4 mw1_5 mw7_5 hd_X7_in hx hb hml hown hG hKX (c_X7_in l D cy ((i).toInt64) (0 : Int64) (((nI m - (1 : Int32))).toInt64)) ⟨Nat.le_of_ble_eq_true rfl, Nat.le_of_ble_eq_true rfl⟩ ⟨Nat.zero_le _, Nat.zero_le _⟩ (hP.sub [] rfl) rfl hl.1 rfl (Nat.le_of_ble_eq_true rfl) dX7_peek_29 ?_
      refine lv_if_eq (tgt := 49) hx hb dX7_peek_32 (by decide) (fun c3 => ?_) (fun c3 => ?_)
      · refine lv_ldc2 (v := (-9223372036854775808 : Int64)) hx hb hown (hG _ mw25_10) dX7_peek_49 ?_
        exact W.lret (v := (-9223372036854775808 : Int64)) hx hb hr (fun t ht hW => ⟨_, rfl, by unfold f_X7_peekv; rw [if_neg c1, if_neg c2, if_pos c3] <;> rfl, ht⟩) (fun q hq => by cases hq) dX7_peek_52
      · obtain ⟨j52, hj52, hlj52, rfl⟩ := inN_of (n := m) (by omega) c3
        refine lv_aload_n hx hb dX7_peek_35 rfl (lv_at hl 0 rfl) ?_
        refine gf_X7_76 hx hb hG hown hKX hP 0 rfl rfl dX7_peek_36 ?_
        refine lv_bipush (v := (60 : Int32)) hx hb dX7_peek_39 (by decide) ?_
        refine lv_iload_n hx hb dX7_peek_41 rfl (lv_at hl 1 rfl) ?_
        refine lv_imul hx hb dX7_peek_42 ?_
        refine topi_eq (y := nI (60 * j)) (mN rfl rfl) ?_
        refine lv_iload_n hx hb dX7_peek_43 rfl (lv_at hl 2 rfl) ?_
        refine lv_iadd hx hb dX7_peek_44 ?_
        refine topi_eq (y := nI ((60 * j) + j52)) (aN rfl rfl) ?_
        refine lald_n hx hb hKX hP 21 rfl rfl (by omega) (by decide) dX7_peek_45 ?_
        refine lv_goto (tgt := 52) hx hb dX7_peek_46 (by decide) ?_
        exact W.lret (v := (om_items ((60 * j) + j52))) hx hb hr (fun t ht hW => ⟨_, rfl, by unfold f_X7_peekv; (try simp only [hj52]); rw [if_neg c1, if_neg c2, if_neg c3] <;> rfl, ht⟩) (fun q hq => by cases hq) dX7_peek_52
def f_X7_shiftb : Int32 × Unit :=
  ((-1 : Int32), ())
set_option maxHeartbeats 4000000 in
set_option maxRecDepth 100000 in
theorem c_X7_shiftb (l : Launch) (D : va_G) (cy : Nat → ClassId) (om : Nat → Nat) (om_thrown : Int32) (om_s : Nat → Int32) (om_kept : Nat → Int32) (om_aside : Nat → Int32) (om_isKept : Int32) (om_reaches : Nat → Int32) (om_ringOf : Nat → Int32) (om_rungOf : Nat → Int32) (om_rings : Nat → Int32) (om_ringMany : Int32) (om_paid : Nat → Int32) (om_leftOf : Nat → Int32) (om_ringPaid : Nat → Int32) (om_paidAll : Int32) (om_mosts : Nat → Int32) (om_text : Nat → Int32) (om_signs : Int32) (om_at : Int32) (om_isWrong : Int32) (om_clauses : Int32) (om_letters : Nat → Int32) (om_one : Nat → Int32) (om_two : Nat → Int32) (om_three : Nat → Int32) (om_whys : Nat → Int32) (om_backs : Nat → Int32) (om_sorts : Nat → Int32) (om_sizes : Nat → Int32) (om_items : Nat → Int64) (t : Int32) (i : Int32) (o : Int32) (j : Int32) (v : Int32) (hbad : f_X7_isTape t = 0) : RwI (S := Unit) l D cy yX7_shift (.code yX7_shift cX7_shift 9 (some .int)) 2 (wX7 cy om om_thrown om_s om_kept om_aside om_isKept om_reaches om_ringOf om_rungOf om_rings om_ringMany om_paid om_leftOf om_ringPaid om_paidAll om_mosts om_text om_signs om_at om_isWrong om_clauses om_letters om_one om_two om_three om_whys om_backs om_sorts om_sizes om_items) [.ref (om 0), .int t, .int i, .int o, .int j, .int v] (fun rr u => (rr, u) = f_X7_shiftb) (fun u => wX7 cy om om_thrown om_s om_kept om_aside om_isKept om_reaches om_ringOf om_rungOf om_rings om_ringMany om_paid om_leftOf om_ringPaid om_paidAll om_mosts om_text om_signs om_at om_isWrong om_clauses om_letters om_one om_two om_three om_whys om_backs om_sorts om_sizes om_items) := by
  intro sz
  refine Met.ofW (cc := cX7_shift) (maxL := 9) (ret := (some .int)) (by decide) rfl ?_
  intro pP eE s0 mM args below meth cC s₁ B hml hv
  obtain ⟨rfl, hsz, hP, hKX, hD0⟩ := hv
  have hx := B.exec
  have hb := B.bytes
  have hr := B.returns
  have hG := gw_hts (atoms_spec (ws := _) B.pre)
  have hown : s0.vm.findClass RX7 = some mM.cls := findClass_of_methodNamed B.named
  have hlocks := B.notSynchronized
  subst hsz
  have hD := hD0.self (sz := s0.heap.size)
  generalize hAe : va_A (wX7 cy om om_thrown om_s om_kept om_aside om_isKept om_reaches om_ringOf om_rungOf om_rings om_ringMany om_paid om_leftOf om_ringPaid om_paidAll om_mosts om_text om_signs om_at om_isWrong om_clauses om_letters om_one om_two om_three om_whys om_backs om_sorts om_sizes om_items) s0.heap.size = A at hD ⊢
  have hA : ∀ q : Nat, s0.heap.size ≤ q → A q := fun q h => by rw [← hAe]; exact Or.inr h
  have hS : va_S A s0.heap s0.heap [] := va_S.rf
  have hl := lv_entry ([.ref (om 0), .int t, .int i, .int o, .int j, .int v]) (n := 9) (Nat.le_of_ble_eq_true rfl)
  rw [lg_entry_eq]
  generalize (lg_sl ([.ref (om 0), .int t, .int i, .int o, .int j, .int v]) ++ List.replicate (9 - (lg_sl ([.ref (om 0), .int t, .int i, .int o, .int j, .int v])).length) Slot.unset).toArray = ls at hl ⊢
  have hl : lv_has ls 9 [(0, .ref (om 0)), (1, .int t), (2, .int i), (3, .int o), (4, .int j), (5, .int v)] := hl
  refine lv_iload_n hx hb dX7_shift_0 rfl (lv_at hl 1 rfl) ?_
  refine cRoS mw32_4 mw32_5 mw1_5 mw32_6 hd_X7_isTape hx hb hml hown hG hKX (c_X7_isTape l D cy t) ⟨Nat.le_of_ble_eq_true rfl, Nat.le_of_ble_eq_true rfl⟩ ⟨Nat.zero_le _, Nat.zero_le _⟩ (hP.sub [] rfl) rfl hl.1 rfl (Nat.le_of_ble_eq_true rfl) dX7_shift_1 ?_
  refine lv_if_eq (tgt := 14) hx hb dX7_shift_4 (by decide) (fun _ => ?_) (fun c1 => absurd hbad c1)
  refine lv_iconst (v := (-1 : Int32)) hx hb dX7_shift_14 (by decide) ?_
  exact W.iret (v := (-1 : Int32)) hx hb hr (fun t ht hW => ⟨⟨(-1 : Int32), (), rfl, by unfold f_X7_shiftb; rfl, by rw [ht]; exact hP, hD⟩, hS.F ht⟩) hS.2.2 dX7_shift_15
def f_X7_shiftc : Int32 × Unit :=
  ((-1 : Int32), ())
set_option maxHeartbeats 4000000 in
set_option maxRecDepth 100000 in
theorem c_X7_shiftc (l : Launch) (D : va_G) (cy : Nat → ClassId) (om : Nat → Nat) (om_thrown : Int32) (om_s : Nat → Int32) (om_kept : Nat → Int32) (om_aside : Nat → Int32) (om_isKept : Int32) (om_reaches : Nat → Int32) (om_ringOf : Nat → Int32) (om_rungOf : Nat → Int32) (om_rings : Nat → Int32) (om_ringMany : Int32) (om_paid : Nat → Int32) (om_leftOf : Nat → Int32) (om_ringPaid : Nat → Int32) (om_paidAll : Int32) (om_mosts : Nat → Int32) (om_text : Nat → Int32) (om_signs : Int32) (om_at : Int32) (om_isWrong : Int32) (om_clauses : Int32) (om_letters : Nat → Int32) (om_one : Nat → Int32) (om_two : Nat → Int32) (om_three : Nat → Int32) (om_whys : Nat → Int32) (om_backs : Nat → Int32) (om_sorts : Nat → Int32) (om_sizes : Nat → Int32) (om_items : Nat → Int64) (t : Int32) (i : Int32) (o : Int32) (j : Int32) (v : Int32) (hgood : ¬ f_X7_isTape t = 0) (hbad : f_X7_isTape o = 0) : RwI (S := Unit) l D cy yX7_shift (.code yX7_shift cX7_shift 9 (some .int)) 2 (wX7 cy om om_thrown om_s om_kept om_aside om_isKept om_reaches om_ringOf om_rungOf om_rings om_ringMany om_paid om_leftOf om_ringPaid om_paidAll om_mosts om_text om_signs om_at om_isWrong om_clauses om_letters om_one om_two om_three om_whys om_backs om_sorts om_sizes om_items) [.ref (om 0), .int t, .int i, .int o, .int j, .int v] (fun rr u => (rr, u) = f_X7_shiftc) (fun u => wX7 cy om om_thrown om_s om_kept om_aside om_isKept om_reaches om_ringOf om_rungOf om_rings om_ringMany om_paid om_leftOf om_ringPaid om_paidAll om_mosts om_text om_signs om_at om_isWrong om_clauses om_letters om_one om_two om_three om_whys om_backs om_sorts om_sizes om_items) := by
  intro sz
  refine Met.ofW (cc := cX7_shift) (maxL := 9) (ret := (some .int)) (by decide) rfl ?_
  intro pP eE s0 mM args below meth cC s₁ B hml hv
  obtain ⟨rfl, hsz, hP, hKX, hD0⟩ := hv
  have hx := B.exec
  have hb := B.bytes
  have hr := B.returns
  have hG := gw_hts (atoms_spec (ws := _) B.pre)
  have hown : s0.vm.findClass RX7 = some mM.cls := findClass_of_methodNamed B.named
  have hlocks := B.notSynchronized
  subst hsz
  have hD := hD0.self (sz := s0.heap.size)
  generalize hAe : va_A (wX7 cy om om_thrown om_s om_kept om_aside om_isKept om_reaches om_ringOf om_rungOf om_rings om_ringMany om_paid om_leftOf om_ringPaid om_paidAll om_mosts om_text om_signs om_at om_isWrong om_clauses om_letters om_one om_two om_three om_whys om_backs om_sorts om_sizes om_items) s0.heap.size = A at hD ⊢
  have hA : ∀ q : Nat, s0.heap.size ≤ q → A q := fun q h => by rw [← hAe]; exact Or.inr h
  have hS : va_S A s0.heap s0.heap [] := va_S.rf
  have hl := lv_entry ([.ref (om 0), .int t, .int i, .int o, .int j, .int v]) (n := 9) (Nat.le_of_ble_eq_true rfl)
  rw [lg_entry_eq]
  generalize (lg_sl ([.ref (om 0), .int t, .int i, .int o, .int j, .int v]) ++ List.replicate (9 - (lg_sl ([.ref (om 0), .int t, .int i, .int o, .int j, .int v])).length) Slot.unset).toArray = ls at hl ⊢
  have hl : lv_has ls 9 [(0, .ref (om 0)), (1, .int t), (2, .int i), (3, .int o), (4, .int j), (5, .int v)] := hl
  refine lv_iload_n hx hb dX7_shift_0 rfl (lv_at hl 1 rfl) ?_
  refine cRoS mw32_4 mw32_5 mw1_5 mw32_6 hd_X7_isTape hx hb hml hown hG hKX (c_X7_isTape l D cy t) ⟨Nat.le_of_ble_eq_true rfl, Nat.le_of_ble_eq_true rfl⟩ ⟨Nat.zero_le _, Nat.zero_le _⟩ (hP.sub [] rfl) rfl hl.1 rfl (Nat.le_of_ble_eq_true rfl) dX7_shift_1 ?_
  refine lv_if_eq (tgt := 14) hx hb dX7_shift_4 (by decide) (fun c1 => absurd c1 hgood) (fun _ => ?_)
  refine lv_iload_n hx hb dX7_shift_7 rfl (lv_at hl 3 rfl) ?_
  refine cRoS mw32_4 mw32_5 mw1_5 mw32_6 hd_X7_isTape hx hb hml hown hG hKX (c_X7_isTape l D cy o) ⟨Nat.le_of_ble_eq_true rfl, Nat.le_of_ble_eq_true rfl⟩ ⟨Nat.zero_le _, Nat.zero_le _⟩ (hP.sub [] rfl) rfl hl.1 rfl (Nat.le_of_ble_eq_true rfl) dX7_shift_8 ?_
  refine lv_if_ne (tgt := 16) hx hb dX7_shift_11 (by decide) (fun c2 => absurd hbad c2) (fun _ => ?_)
  refine lv_iconst (v := (-1 : Int32)) hx hb dX7_shift_14 (by decide) ?_
  exact W.iret (v := (-1 : Int32)) hx hb hr (fun t ht hW => ⟨⟨(-1 : Int32), (), rfl, by unfold f_X7_shiftc; rfl, by rw [ht]; exact hP, hD⟩, hS.F ht⟩) hS.2.2 dX7_shift_15
def bd_X7_shiftd_122 (jt : Nat) (jo : Nat) (j101 : Nat) (j101_1 : Nat) (j101_2 : Nat) (v117 : Int32) (k122 : Nat) (z122 : (Nat → Int64)) : (Nat → Int64) :=
  if v117 = (0 : Int32) then (vp_updL z122 (((60 * jo) + j101_2) + k122) (z122 (((60 * jt) + j101_1) + k122))) else (vp_updL z122 (((60 * jo) + j101_2) + ((j101 - 1) - k122)) (z122 (((60 * jt) + j101_1) + ((j101 - 1) - k122))))
def f_X7_shiftd (om_sorts : Nat → Int32) (om_items : Nat → Int64) (i : Int32) (j : Int32) (v : Int32) (jt : Nat) (jo : Nat) (lm : Nat) (lk : Nat) : Int32 × (Nat → Int64) :=
  if (f_X7_isTape (nI jt)) = (0 : Int32) then ((-1 : Int32), om_items) else (if (f_X7_isTape (nI jo)) = (0 : Int32) then ((-1 : Int32), om_items) else (if (om_sorts jt) = (-1 : Int32) then ((-11 : Int32), om_items) else (if (om_sorts jo) = (-1 : Int32) then ((-11 : Int32), om_items) else (if (om_sorts jt) = (om_sorts jo) then (if v < (0 : Int32) then ((-13 : Int32), om_items) else (if i < (0 : Int32) then ((-13 : Int32), om_items) else (if j < (0 : Int32) then ((-13 : Int32), om_items) else (if (nI lm - v) < i then ((-13 : Int32), om_items) else (if j ≤ (nI lk - v) then (if nI jt = nI jo then (if nI j.toNatClampNeg ≤ nI i.toNatClampNeg then (nI v.toNatClampNeg, (itr (bd_X7_shiftd_122 jt jo v.toNatClampNeg i.toNatClampNeg j.toNatClampNeg (0 : Int32)) v.toNatClampNeg om_items)) else (nI v.toNatClampNeg, (itr (bd_X7_shiftd_122 jt jo v.toNatClampNeg i.toNatClampNeg j.toNatClampNeg (1 : Int32)) v.toNatClampNeg om_items))) else (nI v.toNatClampNeg, (itr (bd_X7_shiftd_122 jt jo v.toNatClampNeg i.toNatClampNeg j.toNatClampNeg (0 : Int32)) v.toNatClampNeg om_items))) else ((-13 : Int32), om_items)))))) else ((-12 : Int32), om_items)))))
set_option maxHeartbeats 4000000 in
set_option maxRecDepth 100000 in
theorem c_X7_shiftd (l : Launch) (D : va_G) (cy : Nat → ClassId) (om : Nat → Nat) (om_thrown : Int32) (om_s : Nat → Int32) (om_kept : Nat → Int32) (om_aside : Nat → Int32) (om_isKept : Int32) (om_reaches : Nat → Int32) (om_ringOf : Nat → Int32) (om_rungOf : Nat → Int32) (om_rings : Nat → Int32) (om_ringMany : Int32) (om_paid : Nat → Int32) (om_leftOf : Nat → Int32) (om_ringPaid : Nat → Int32) (om_paidAll : Int32) (om_mosts : Nat → Int32) (om_text : Nat → Int32) (om_signs : Int32) (om_at : Int32) (om_isWrong : Int32) (om_clauses : Int32) (om_letters : Nat → Int32) (om_one : Nat → Int32) (om_two : Nat → Int32) (om_three : Nat → Int32) (om_whys : Nat → Int32) (om_backs : Nat → Int32) (om_sorts : Nat → Int32) (om_sizes : Nat → Int32) (om_items : Nat → Int64) (i : Int32) (j : Int32) (v : Int32) (jt : Nat) (jo : Nat) (lm : Nat) (lk : Nat) (hj6 : jt < 6) (ho6 : jo < 6) (hszt : om_sizes jt = nI lm) (hszo : om_sizes jo = nI lk) (hlm : lm ≤ 60) (hlk : lk ≤ 60) : RwI (S := (Nat → Int64)) l D cy yX7_shift (.code yX7_shift cX7_shift 9 (some .int)) 2 (wX7 cy om om_thrown om_s om_kept om_aside om_isKept om_reaches om_ringOf om_rungOf om_rings om_ringMany om_paid om_leftOf om_ringPaid om_paidAll om_mosts om_text om_signs om_at om_isWrong om_clauses om_letters om_one om_two om_three om_whys om_backs om_sorts om_sizes om_items) [.ref (om 0), .int (nI jt), .int i, .int (nI jo), .int j, .int v] (fun rr u => (rr, u) = f_X7_shiftd om_sorts om_items i j v jt jo lm lk) (fun u => wX7 cy om om_thrown om_s om_kept om_aside om_isKept om_reaches om_ringOf om_rungOf om_rings om_ringMany om_paid om_leftOf om_ringPaid om_paidAll om_mosts om_text om_signs om_at om_isWrong om_clauses om_letters om_one om_two om_three om_whys om_backs om_sorts om_sizes u) := by
  intro sz
  refine Met.ofW (cc := cX7_shift) (maxL := 9) (ret := (some .int)) (by decide) rfl ?_
  intro pP eE s0 mM args below meth cC s₁ B hml hv
  obtain ⟨rfl, hsz, hP, hKX, hD0⟩ := hv
  have hx := B.exec
  have hb := B.bytes
  have hr := B.returns
  have hG := gw_hts (atoms_spec (ws := _) B.pre)
  have hown : s0.vm.findClass RX7 = some mM.cls := findClass_of_methodNamed B.named
  have hlocks := B.notSynchronized
  subst hsz
  have hD := hD0.self (sz := s0.heap.size)
  generalize hAe : va_A (wX7 cy om om_thrown om_s om_kept om_aside om_isKept om_reaches om_ringOf om_rungOf om_rings om_ringMany om_paid om_leftOf om_ringPaid om_paidAll om_mosts om_text om_signs om_at om_isWrong om_clauses om_letters om_one om_two om_three om_whys om_backs om_sorts om_sizes om_items) s0.heap.size = A at hD ⊢
  have hA : ∀ q : Nat, s0.heap.size ≤ q → A q := fun q h => by rw [← hAe]; exact Or.inr h
  have hS : va_S A s0.heap s0.heap [] := va_S.rf
  have hl := lv_entry ([.ref (om 0), .int (nI jt), .int i, .int (nI jo), .int j, .int v]) (n := 9) (Nat.le_of_ble_eq_true rfl)
  rw [lg_entry_eq]
  generalize (lg_sl ([.ref (om 0), .int (nI jt), .int i, .int (nI jo), .int j, .int v]) ++ List.replicate (9 - (lg_sl ([.ref (om 0), .int (nI jt), .int i, .int (nI jo), .int j, .int v])).length) Slot.unset).toArray = ls at hl ⊢
  have hl : lv_has ls 9 [(0, .ref (om 0)), (1, .int (nI jt)), (2, .int i), (3, .int (nI jo)), (4, .int j), (5, .int v)] := hl
  refine lv_iload_n hx hb dX7_shift_0 rfl (lv_at hl 1 rfl) ?_
  refine cRoS mw32_4 mw32_5 mw1_5 mw32_6 hd_X7_isTape hx hb hml hown hG hKX (c_X7_isTape l D cy (nI jt)) ⟨Nat.le_of_ble_eq_true rfl, Nat.le_of_ble_eq_true rfl⟩ ⟨Nat.zero_le _, Nat.zero_le _⟩ (hP.sub [] rfl) rfl hl.1 rfl (Nat.le_of_ble_eq_true rfl) dX7_shift_1 ?_
  refine lv_if_eq (tgt := 14) hx hb dX7_shift_4 (by decide) (fun c1 => ?_) (fun c1 => ?_)
  · refine lv_iconst (v := (-1 : Int32)) hx hb dX7_shift_14 (by decide) ?_
    exact W.iret (v := (-1 : Int32)) hx hb hr (fun t ht hW => ⟨⟨(-1 : Int32), om_items, rfl, by unfold f_X7_shiftd; rw [if_pos c1] <;> rfl, by rw [ht]; exact hP, hD⟩, hS.F ht⟩) hS.2.2 dX7_shift_15
  · refine lv_iload_n hx hb dX7_shift_7 rfl (lv_at hl 3 rfl) ?_
    refine cRoS mw32_4 mw32_5 mw1_5 mw32_6 hd_X7_isTape hx hb hml hown hG hKX (c_X7_isTape l D cy (nI jo)) ⟨Nat.le_of_ble_eq_true rfl, Nat.le_of_ble_eq_true rfl⟩ ⟨Nat.zero_le _, Nat.zero_le _⟩ (hP.sub [] rfl) rfl hl.1 rfl (Nat.le_of_ble_eq_true rfl) dX7_shift_8 ?_
    refine lv_if_ne (tgt := 16) hx hb dX7_shift_11 (by decide) (fun c2 => ?_) (fun c2 => ?_)
    · refine lv_aload_n hx hb dX7_shift_16 rfl (lv_at hl 0 rfl) ?_
      refine gf_X7_70 hx hb hG hown hKX hP 0 rfl rfl dX7_shift_17 ?_
      refine lv_iload_n hx hb dX7_shift_20 rfl (lv_at hl 1 rfl) ?_
      refine iald_n hx hb hKX hP 19 rfl rfl (by omega) (by decide) dX7_shift_21 ?_
      refine lv_iconst (v := (-1 : Int32)) hx hb dX7_shift_22 (by decide) ?_
      refine lv_icmp_eq (tgt := 36) hx hb dX7_shift_23 (by decide) (fun c3 => ?_) (fun c3 => ?_)
      · refine lv_bipush (v := (-11 : Int32)) hx hb dX7_shift_36 (by decide) ?_
        exact W.iret (v := (-11 : Int32)) hx hb hr (fun t ht hW => ⟨⟨(-11 : Int32), om_items, rfl, by unfold f_X7_shiftd; rw [if_neg c1, if_neg c2, if_pos c3] <;> rfl, by rw [ht]; exact hP, hD⟩, hS.F ht⟩) hS.2.2 dX7_shift_38
      · refine lv_aload_n hx hb dX7_shift_26 rfl (lv_at hl 0 rfl) ?_
        refine gf_X7_70 hx hb hG hown hKX hP 0 rfl rfl dX7_shift_27 ?_
        refine lv_iload_n hx hb dX7_shift_30 rfl (lv_at hl 3 rfl) ?_
        refine iald_n hx hb hKX hP 19 rfl rfl (by omega) (by decide) dX7_shift_31 ?_
        refine lv_iconst (v := (-1 : Int32)) hx hb dX7_shift_32 (by decide) ?_
        refine lv_icmp_ne (tgt := 39) hx hb dX7_shift_33 (by decide) (fun c4 => ?_) (fun c4 => ?_)
        · refine lv_aload_n hx hb dX7_shift_39 rfl (lv_at hl 0 rfl) ?_
          refine gf_X7_70 hx hb hG hown hKX hP 0 rfl rfl dX7_shift_40 ?_
          refine lv_iload_n hx hb dX7_shift_43 rfl (lv_at hl 1 rfl) ?_
          refine iald_n hx hb hKX hP 19 rfl rfl (by omega) (by decide) dX7_shift_44 ?_
          refine lv_aload_n hx hb dX7_shift_45 rfl (lv_at hl 0 rfl) ?_
          refine gf_X7_70 hx hb hG hown hKX hP 0 rfl rfl dX7_shift_46 ?_
          refine lv_iload_n hx hb dX7_shift_49 rfl (lv_at hl 3 rfl) ?_
          refine iald_n hx hb hKX hP 19 rfl rfl (by omega) (by decide) dX7_shift_50 ?_
          refine lv_icmp_eq (tgt := 57) hx hb dX7_shift_51 (by decide) (fun c5 => ?_) (fun c5 => ?_)
          · refine lv_iload hx hb dX7_shift_57 (lv_at hl 5 rfl) ?_
            refine lv_if_lt (tgt := 98) hx hb dX7_shift_59 (by decide) (fun c6 => ?_) (fun c6 => ?_)
            · refine lv_bipush (v := (-13 : Int32)) hx hb dX7_shift_98 (by decide) ?_
              exact W.iret (v := (-13 : Int32)) hx hb hr (fun t ht hW => ⟨⟨(-13 : Int32), om_items, rfl, by unfold f_X7_shiftd; rw [if_neg c1, if_neg c2, if_neg c3, if_neg c4, if_pos c5, if_pos c6] <;> rfl, by rw [ht]; exact hP, hD⟩, hS.F ht⟩) hS.2.2 dX7_shift_100
            · refine lv_iload_n hx hb dX7_shift_62 rfl (lv_at hl 2 rfl) ?_
              refine lv_if_lt (tgt := 98) hx hb dX7_shift_63 (by decide) (fun c7 => ?_) (fun c7 => ?_)
              · refine lv_bipush (v := (-13 : Int32)) hx hb dX7_shift_98 (by decide) ?_
                exact W.iret (v := (-13 : Int32)) hx hb hr (fun t ht hW => ⟨⟨(-13 : Int32), om_items, rfl, by unfold f_X7_shiftd; rw [if_neg c1, if_neg c2, if_neg c3, if_neg c4, if_pos c5, if_neg c6, if_pos c7] <;> rfl, by rw [ht]; exact hP, hD⟩, hS.F ht⟩) hS.2.2 dX7_shift_100
              · refine lv_iload hx hb dX7_shift_66 (lv_at hl 4 rfl) ?_
                refine lv_if_lt (tgt := 98) hx hb dX7_shift_68 (by decide) (fun c8 => ?_) (fun c8 => ?_)
                · refine lv_bipush (v := (-13 : Int32)) hx hb dX7_shift_98 (by decide) ?_
                  exact W.iret (v := (-13 : Int32)) hx hb hr (fun t ht hW => ⟨⟨(-13 : Int32), om_items, rfl, by unfold f_X7_shiftd; rw [if_neg c1, if_neg c2, if_neg c3, if_neg c4, if_pos c5, if_neg c6, if_neg c7, if_pos c8] <;> rfl, by rw [ht]; exact hP, hD⟩, hS.F ht⟩) hS.2.2 dX7_shift_100
                · refine lv_iload_n hx hb dX7_shift_71 rfl (lv_at hl 2 rfl) ?_
                  refine lv_aload_n hx hb dX7_shift_72 rfl (lv_at hl 0 rfl) ?_
                  refine gf_X7_73 hx hb hG hown hKX hP 0 rfl rfl dX7_shift_73 ?_
                  refine lv_iload_n hx hb dX7_shift_76 rfl (lv_at hl 1 rfl) ?_
                  refine iald_v hx hb hKX hP 20 rfl rfl (by omega) (by decide) hszt dX7_shift_77 ?_
                  refine lv_iload hx hb dX7_shift_78 (lv_at hl 5 rfl) ?_
                  refine lv_isub hx hb dX7_shift_80 ?_
                  refine lv_icmp_gt (tgt := 98) hx hb dX7_shift_81 (by decide) (fun c9 => ?_) (fun c9 => ?_)
                  · refine lv_bipush (v := (-13 : Int32)) hx hb dX7_shift_98 (by decide) ?_
                    exact W.iret (v := (-13 : Int32)) hx hb hr (fun t ht hW => ⟨⟨(-13 : Int32), om_items, rfl, by unfold f_X7_shiftd; rw [if_neg c1, if_neg c2, if_neg c3, if_neg c4, if_pos c5, if_neg c6, if_neg c7, if_neg c8, if_pos c9] <;> rfl, by rw [ht]; exact hP, hD⟩, hS.F ht⟩) hS.2.2 dX7_shift_100
                  · refine lv_iload hx hb dX7_shift_84 (lv_at hl 4 rfl) ?_
                    refine lv_aload_n hx hb dX7_shift_86 rfl (lv_at hl 0 rfl) ?_
                    refine gf_X7_73 hx hb hG hown hKX hP 0 rfl rfl dX7_shift_87 ?_
                    refine lv_iload_n hx hb dX7_shift_90 rfl (lv_at hl 3 rfl) ?_
                    refine iald_v hx hb hKX hP 20 rfl rfl (by omega) (by decide) hszo dX7_shift_91 ?_
                    refine lv_iload hx hb dX7_shift_92 (lv_at hl 5 rfl) ?_
                    refine lv_isub hx hb dX7_shift_94 ?_
                    refine lv_icmp_le (tgt := 101) hx hb dX7_shift_95 (by decide) (fun c10 => ?_) (fun c10 => ?_)
                    · obtain ⟨j101, hj101, hlj101, rfl⟩ := nneg_of (Int32.not_lt.mp c6)
                      obtain ⟨j101_1, hj101_1, hlj101_1, rfl⟩ := nneg_of (Int32.not_lt.mp c7)
                      obtain ⟨j101_2, hj101_2, hlj101_2, rfl⟩ := nneg_of (Int32.not_lt.mp c8)
                      have hsh1 := sh_le hlj101_1 hlj101 hlm c9
                      have hsh2 := sh_le2 hlj101_2 hlj101 hlk c10
                      refine lv_iload_n hx hb dX7_shift_101 rfl (lv_at hl 1 rfl) ?_
                      refine lv_iload_n hx hb dX7_shift_102 rfl (lv_at hl 3 rfl) ?_
                      refine lv_icmp_ne (tgt := 116) hx hb dX7_shift_103 (by decide) (fun c11 => ?_) (fun c11 => ?_)
                      · refine lv_iconst (v := (0 : Int32)) hx hb dX7_shift_116 (by decide) ?_
                        refine lv_topi (fun v117 ev117 => ?_)
                        refine lv_istore (lv' := [(6, .int v117), (0, .ref (om 0)), (1, .int (nI jt)), (2, .int (nI j101_1)), (3, .int (nI jo)), (4, .int (nI j101_2)), (5, .int (nI j101))]) hx hb dX7_shift_117 hl (by decide) rfl (fun ls hl => ?_)
                        refine lv_iconst (v := (0 : Int32)) hx hb dX7_shift_119 (by decide) ?_
                        refine lv_istore (lv' := [(7, .int (0 : Int32)), (6, .int v117), (0, .ref (om 0)), (1, .int (nI jt)), (2, .int (nI j101_1)), (3, .int (nI jo)), (4, .int (nI j101_2)), (5, .int (nI j101))]) hx hb dX7_shift_120 hl (by decide) rfl (fun ls hl => ?_)
                        refine loopW (bd_X7_shiftd_122 jt jo j101 j101_1 j101_2 v117) om_items j101 (fun k122 z122 => [(7, .int (nI k122)), (6, .int v117), (0, .ref (om 0)), (1, .int (nI jt)), (2, .int (nI j101_1)), (3, .int (nI jo)), (4, .int (nI j101_2)), (5, .int (nI j101))]) (fun k122 z122 => wX7 cy om om_thrown om_s om_kept om_aside om_isKept om_reaches om_ringOf om_rungOf om_rings om_ringMany om_paid om_leftOf om_ringPaid om_paidAll om_mosts om_text om_signs om_at om_isWrong om_clauses om_letters om_one om_two om_three om_whys om_backs om_sorts om_sizes z122) hP hD hS (lv_sub hl [0, 1, 2, 3, 4, 5, 6, 7] rfl) (fun k122 z122 H locs ls hk122 hz122 hP hD hS hl ih122 => ?_)
                        refine lv_iload hx hb dX7_shift_122 (lv_at hl 0 rfl) ?_
                        refine lv_iload hx hb dX7_shift_124 (lv_at hl 7 rfl) ?_
                        refine lv_icmp_ge (tgt := 183) hx hb dX7_shift_126 (by decide) (fun c12 => ?_) (fun c12 => ?_)
                        · have e_k122 : j101 = k122 := Nat.le_antisymm ((le_n (N := j101) (k := k122) rfl (by omega) (by omega)).mp c12) hk122
                          subst e_k122
                          refine lv_iload hx hb dX7_shift_183 (lv_at hl 7 rfl) ?_
                          exact W.iret (v := nI j101) hx hb hr (fun t ht hW => ⟨⟨nI j101, z122, rfl, by subst hz122; subst ev117; unfold f_X7_shiftd; (try simp only [hj101, hj101_1, hj101_2]); rw [if_neg c1, if_neg c2, if_neg c3, if_neg c4, if_pos c5, if_neg c6, if_neg c7, if_neg c8, if_neg c9, if_pos c10, if_neg c11] <;> rfl, by rw [ht]; exact hP, hD⟩, hS.F ht⟩) hS.2.2 dX7_shift_185
                        · have hlt122 : k122 < j101 := Nat.lt_of_not_le (fun qq_ => c12 ((le_n (N := j101) (k := k122) rfl (by omega) (by omega)).mpr qq_))
                          refine lv_iload hx hb dX7_shift_129 (lv_at hl 1 rfl) ?_
                          refine lv_if_eq (tgt := 144) hx hb dX7_shift_131 (by decide) (fun c13 => ?_) (fun c13 => ?_)
                          · refine lv_iload hx hb dX7_shift_144 (lv_at hl 0 rfl) ?_
                            refine lv_istore (lv' := [(8, .int (nI k122)), (7, .int (nI k122)), (6, .int v117), (0, .ref (om 0)), (1, .int (nI jt)), (2, .int (nI j101_1)), (3, .int (nI jo)), (4, .int (nI j101_2)), (5, .int (nI j101))]) hx hb dX7_shift_146 hl (by decide) rfl (fun ls hl => ?_)
                            refine lv_aload_n hx hb dX7_shift_148 rfl (lv_at hl 3 rfl) ?_
                            refine gf_X7_76 hx hb hG hown hKX hP 0 rfl rfl dX7_shift_149 ?_
                            refine lv_bipush (v := (60 : Int32)) hx hb dX7_shift_152 (by decide) ?_
                            refine lv_iload_n hx hb dX7_shift_154 rfl (lv_at hl 6 rfl) ?_
                            refine lv_imul hx hb dX7_shift_155 ?_
                            refine topi_eq (y := nI (60 * jo)) (mN rfl rfl) ?_
                            refine lv_iload hx hb dX7_shift_156 (lv_at hl 7 rfl) ?_
                            refine lv_iadd hx hb dX7_shift_158 ?_
                            refine topi_eq (y := nI ((60 * jo) + j101_2)) (aN rfl rfl) ?_
                            refine lv_iload hx hb dX7_shift_159 (lv_at hl 0 rfl) ?_
                            refine lv_iadd hx hb dX7_shift_161 ?_
                            refine topi_eq (y := nI (((60 * jo) + j101_2) + k122)) (aN rfl rfl) ?_
                            refine lv_aload_n hx hb dX7_shift_162 rfl (lv_at hl 3 rfl) ?_
                            refine gf_X7_76 hx hb hG hown hKX hP 0 rfl rfl dX7_shift_163 ?_
                            refine lv_bipush (v := (60 : Int32)) hx hb dX7_shift_166 (by decide) ?_
                            refine lv_iload_n hx hb dX7_shift_168 rfl (lv_at hl 4 rfl) ?_
                            refine lv_imul hx hb dX7_shift_169 ?_
                            refine topi_eq (y := nI (60 * jt)) (mN rfl rfl) ?_
                            refine lv_iload_n hx hb dX7_shift_170 rfl (lv_at hl 5 rfl) ?_
                            refine lv_iadd hx hb dX7_shift_171 ?_
                            refine topi_eq (y := nI ((60 * jt) + j101_1)) (aN rfl rfl) ?_
                            refine lv_iload hx hb dX7_shift_172 (lv_at hl 0 rfl) ?_
                            refine lv_iadd hx hb dX7_shift_174 ?_
                            refine topi_eq (y := nI (((60 * jt) + j101_1) + k122)) (aN rfl rfl) ?_
                            refine lald_n hx hb hKX hP 21 rfl rfl (by omega) (by decide) dX7_shift_175 ?_
                            refine last_n hx hb hKX hP hD hS 21 rfl rfl (by omega) (by decide) dX7_shift_176 (fun H locs hP hD hS => ?_)
                            have hP : va_P D vwCl (wX7 cy om om_thrown om_s om_kept om_aside om_isKept om_reaches om_ringOf om_rungOf om_rings om_ringMany om_paid om_leftOf om_ringPaid om_paidAll om_mosts om_text om_signs om_at om_isWrong om_clauses om_letters om_one om_two om_three om_whys om_backs om_sorts om_sizes (vp_updL z122 (((60 * jo) + j101_2) + k122) (z122 (((60 * jt) + j101_1) + k122)))) H := hP
                            have hD : va_D A (wX7 cy om om_thrown om_s om_kept om_aside om_isKept om_reaches om_ringOf om_rungOf om_rings om_ringMany om_paid om_leftOf om_ringPaid om_paidAll om_mosts om_text om_signs om_at om_isWrong om_clauses om_letters om_one om_two om_three om_whys om_backs om_sorts om_sizes (vp_updL z122 (((60 * jo) + j101_2) + k122) (z122 (((60 * jt) + j101_1) + k122)))) := hD
                            refine lv_iinc (v := nI (k122 + 1)) (lv' := [(7, .int (nI (k122 + 1))), (8, .int (nI k122)), (6, .int v117), (0, .ref (om 0)), (1, .int (nI jt)), (2, .int (nI j101_1)), (3, .int (nI jo)), (4, .int (nI j101_2)), (5, .int (nI j101))]) hx hb dX7_shift_177 hl (k := 1) rfl (nI_1 _) (by decide) rfl (fun ls hl => ?_)
                            refine lv_goto (tgt := 122) hx hb dX7_shift_180 (by decide) ?_
                            exact ih122 (vp_updL z122 (((60 * jo) + j101_2) + k122) (z122 (((60 * jt) + j101_1) + k122))) _ _ _ hlt122 (by unfold bd_X7_shiftd_122; (try simp only [hj101, hj101_1, hj101_2]); rw [if_pos c13] <;> rfl) hP hD hS (lv_sub hl [0, 2, 3, 4, 5, 6, 7, 8] rfl)
                          · refine lv_iload hx hb dX7_shift_134 (lv_at hl 7 rfl) ?_
                            refine lv_iconst (v := (1 : Int32)) hx hb dX7_shift_136 (by decide) ?_
                            refine lv_isub hx hb dX7_shift_137 ?_
                            refine topi_eq (y := nI (j101 - 1)) (sN (a := j101) (b := 1) rfl rfl (by omega)) ?_
                            refine lv_iload hx hb dX7_shift_138 (lv_at hl 0 rfl) ?_
                            refine lv_isub hx hb dX7_shift_140 ?_
                            refine topi_eq (y := nI ((j101 - 1) - k122)) (sN (a := j101 - 1) (b := k122) rfl rfl (by omega)) ?_
                            refine lv_goto (tgt := 146) hx hb dX7_shift_141 (by decide) ?_
                            refine lv_istore (lv' := [(8, .int (nI ((j101 - 1) - k122))), (7, .int (nI k122)), (6, .int v117), (0, .ref (om 0)), (1, .int (nI jt)), (2, .int (nI j101_1)), (3, .int (nI jo)), (4, .int (nI j101_2)), (5, .int (nI j101))]) hx hb dX7_shift_146 hl (by decide) rfl (fun ls hl => ?_)
                            refine lv_aload_n hx hb dX7_shift_148 rfl (lv_at hl 3 rfl) ?_
                            refine gf_X7_76 hx hb hG hown hKX hP 0 rfl rfl dX7_shift_149 ?_
                            refine lv_bipush (v := (60 : Int32)) hx hb dX7_shift_152 (by decide) ?_
                            refine lv_iload_n hx hb dX7_shift_154 rfl (lv_at hl 6 rfl) ?_
                            refine lv_imul hx hb dX7_shift_155 ?_
                            refine topi_eq (y := nI (60 * jo)) (mN rfl rfl) ?_
                            refine lv_iload hx hb dX7_shift_156 (lv_at hl 7 rfl) ?_
                            refine lv_iadd hx hb dX7_shift_158 ?_
                            refine topi_eq (y := nI ((60 * jo) + j101_2)) (aN rfl rfl) ?_
                            refine lv_iload hx hb dX7_shift_159 (lv_at hl 0 rfl) ?_
                            refine lv_iadd hx hb dX7_shift_161 ?_
                            refine topi_eq (y := nI (((60 * jo) + j101_2) + ((j101 - 1) - k122))) (aN rfl rfl) ?_
                            refine lv_aload_n hx hb dX7_shift_162 rfl (lv_at hl 3 rfl) ?_
                            refine gf_X7_76 hx hb hG hown hKX hP 0 rfl rfl dX7_shift_163 ?_
                            refine lv_bipush (v := (60 : Int32)) hx hb dX7_shift_166 (by decide) ?_
                            refine lv_iload_n hx hb dX7_shift_168 rfl (lv_at hl 4 rfl) ?_
                            refine lv_imul hx hb dX7_shift_169 ?_
                            refine topi_eq (y := nI (60 * jt)) (mN rfl rfl) ?_
                            refine lv_iload_n hx hb dX7_shift_170 rfl (lv_at hl 5 rfl) ?_
                            refine lv_iadd hx hb dX7_shift_171 ?_
                            refine topi_eq (y := nI ((60 * jt) + j101_1)) (aN rfl rfl) ?_
                            refine lv_iload hx hb dX7_shift_172 (lv_at hl 0 rfl) ?_
                            refine lv_iadd hx hb dX7_shift_174 ?_
                            refine topi_eq (y := nI (((60 * jt) + j101_1) + ((j101 - 1) - k122))) (aN rfl rfl) ?_
                            refine lald_n hx hb hKX hP 21 rfl rfl (by omega) (by decide) dX7_shift_175 ?_
                            refine last_n hx hb hKX hP hD hS 21 rfl rfl (by omega) (by decide) dX7_shift_176 (fun H locs hP hD hS => ?_)
                            have hP : va_P D vwCl (wX7 cy om om_thrown om_s om_kept om_aside om_isKept om_reaches om_ringOf om_rungOf om_rings om_ringMany om_paid om_leftOf om_ringPaid om_paidAll om_mosts om_text om_signs om_at om_isWrong om_clauses om_letters om_one om_two om_three om_whys om_backs om_sorts om_sizes (vp_updL z122 (((60 * jo) + j101_2) + ((j101 - 1) - k122)) (z122 (((60 * jt) + j101_1) + ((j101 - 1) - k122))))) H := hP
                            have hD : va_D A (wX7 cy om om_thrown om_s om_kept om_aside om_isKept om_reaches om_ringOf om_rungOf om_rings om_ringMany om_paid om_leftOf om_ringPaid om_paidAll om_mosts om_text om_signs om_at om_isWrong om_clauses om_letters om_one om_two om_three om_whys om_backs om_sorts om_sizes (vp_updL z122 (((60 * jo) + j101_2) + ((j101 - 1) - k122)) (z122 (((60 * jt) + j101_1) + ((j101 - 1) - k122))))) := hD
                            refine lv_iinc (v := nI (k122 + 1)) (lv' := [(7, .int (nI (k122 + 1))), (8, .int (nI ((j101 - 1) - k122))), (6, .int v117), (0, .ref (om 0)), (1, .int (nI jt)), (2, .int (nI j101_1)), (3, .int (nI jo)), (4, .int (nI j101_2)), (5, .int (nI j101))]) hx hb dX7_shift_177 hl (k := 1) rfl (nI_1 _) (by decide) rfl (fun ls hl => ?_)
                            refine lv_goto (tgt := 122) hx hb dX7_shift_180 (by decide) ?_
                            exact ih122 (vp_updL z122 (((60 * jo) + j101_2) + ((j101 - 1) - k122)) (z122 (((60 * jt) + j101_1) + ((j101 - 1) - k122)))) _ _ _ hlt122 (by unfold bd_X7_shiftd_122; (try simp only [hj101, hj101_1, hj101_2]); rw [if_neg c13] <;> rfl) hP hD hS (lv_sub hl [0, 2, 3, 4, 5, 6, 7, 8] rfl)
                      · refine lv_iload_n hx hb dX7_shift_106 rfl (lv_at hl 2 rfl) ?_
                        refine lv_iload hx hb dX7_shift_107 (lv_at hl 4 rfl) ?_
                        refine lv_icmp_ge (tgt := 116) hx hb dX7_shift_109 (by decide) (fun c14 => ?_) (fun c14 => ?_)
                        · refine lv_iconst (v := (0 : Int32)) hx hb dX7_shift_116 (by decide) ?_
                          refine lv_topi (fun v117 ev117 => ?_)
                          refine lv_istore (lv' := [(6, .int v117), (0, .ref (om 0)), (1, .int (nI jt)), (2, .int (nI j101_1)), (3, .int (nI jo)), (4, .int (nI j101_2)), (5, .int (nI j101))]) hx hb dX7_shift_117 hl (by decide) rfl (fun ls hl => ?_)
                          refine lv_iconst (v := (0 : Int32)) hx hb dX7_shift_119 (by decide) ?_
                          refine lv_istore (lv' := [(7, .int (0 : Int32)), (6, .int v117), (0, .ref (om 0)), (1, .int (nI jt)), (2, .int (nI j101_1)), (3, .int (nI jo)), (4, .int (nI j101_2)), (5, .int (nI j101))]) hx hb dX7_shift_120 hl (by decide) rfl (fun ls hl => ?_)
                          refine loopW (bd_X7_shiftd_122 jt jo j101 j101_1 j101_2 v117) om_items j101 (fun k122 z122 => [(7, .int (nI k122)), (6, .int v117), (0, .ref (om 0)), (1, .int (nI jt)), (2, .int (nI j101_1)), (3, .int (nI jo)), (4, .int (nI j101_2)), (5, .int (nI j101))]) (fun k122 z122 => wX7 cy om om_thrown om_s om_kept om_aside om_isKept om_reaches om_ringOf om_rungOf om_rings om_ringMany om_paid om_leftOf om_ringPaid om_paidAll om_mosts om_text om_signs om_at om_isWrong om_clauses om_letters om_one om_two om_three om_whys om_backs om_sorts om_sizes z122) hP hD hS (lv_sub hl [0, 1, 2, 3, 4, 5, 6, 7] rfl) (fun k122 z122 H locs ls hk122 hz122 hP hD hS hl ih122 => ?_)
                          refine lv_iload hx hb dX7_shift_122 (lv_at hl 0 rfl) ?_
                          refine lv_iload hx hb dX7_shift_124 (lv_at hl 7 rfl) ?_
                          refine lv_icmp_ge (tgt := 183) hx hb dX7_shift_126 (by decide) (fun c15 => ?_) (fun c15 => ?_)
                          · have e_k122 : j101 = k122 := Nat.le_antisymm ((le_n (N := j101) (k := k122) rfl (by omega) (by omega)).mp c15) hk122
                            subst e_k122
                            refine lv_iload hx hb dX7_shift_183 (lv_at hl 7 rfl) ?_
                            exact W.iret (v := nI j101) hx hb hr (fun t ht hW => ⟨⟨nI j101, z122, rfl, by subst hz122; subst ev117; unfold f_X7_shiftd; (try simp only [hj101, hj101_1, hj101_2]); rw [if_neg c1, if_neg c2, if_neg c3, if_neg c4, if_pos c5, if_neg c6, if_neg c7, if_neg c8, if_neg c9, if_pos c10, if_pos c11, if_pos c14] <;> rfl, by rw [ht]; exact hP, hD⟩, hS.F ht⟩) hS.2.2 dX7_shift_185
                          · have hlt122 : k122 < j101 := Nat.lt_of_not_le (fun qq_ => c15 ((le_n (N := j101) (k := k122) rfl (by omega) (by omega)).mpr qq_))
                            refine lv_iload hx hb dX7_shift_129 (lv_at hl 1 rfl) ?_
                            refine lv_if_eq (tgt := 144) hx hb dX7_shift_131 (by decide) (fun c16 => ?_) (fun c16 => ?_)
                            · refine lv_iload hx hb dX7_shift_144 (lv_at hl 0 rfl) ?_
                              refine lv_istore (lv' := [(8, .int (nI k122)), (7, .int (nI k122)), (6, .int v117), (0, .ref (om 0)), (1, .int (nI jt)), (2, .int (nI j101_1)), (3, .int (nI jo)), (4, .int (nI j101_2)), (5, .int (nI j101))]) hx hb dX7_shift_146 hl (by decide) rfl (fun ls hl => ?_)
                              refine lv_aload_n hx hb dX7_shift_148 rfl (lv_at hl 3 rfl) ?_
                              refine gf_X7_76 hx hb hG hown hKX hP 0 rfl rfl dX7_shift_149 ?_
                              refine lv_bipush (v := (60 : Int32)) hx hb dX7_shift_152 (by decide) ?_
                              refine lv_iload_n hx hb dX7_shift_154 rfl (lv_at hl 6 rfl) ?_
                              refine lv_imul hx hb dX7_shift_155 ?_
                              refine topi_eq (y := nI (60 * jo)) (mN rfl rfl) ?_
                              refine lv_iload hx hb dX7_shift_156 (lv_at hl 7 rfl) ?_
                              refine lv_iadd hx hb dX7_shift_158 ?_
                              refine topi_eq (y := nI ((60 * jo) + j101_2)) (aN rfl rfl) ?_
                              refine lv_iload hx hb dX7_shift_159 (lv_at hl 0 rfl) ?_
                              refine lv_iadd hx hb dX7_shift_161 ?_
                              refine topi_eq (y := nI (((60 * jo) + j101_2) + k122)) (aN rfl rfl) ?_
                              refine lv_aload_n hx hb dX7_shift_162 rfl (lv_at hl 3 rfl) ?_
                              refine gf_X7_76 hx hb hG hown hKX hP 0 rfl rfl dX7_shift_163 ?_
                              refine lv_bipush (v := (60 : Int32)) hx hb dX7_shift_166 (by decide) ?_
                              refine lv_iload_n hx hb dX7_shift_168 rfl (lv_at hl 4 rfl) ?_
                              refine lv_imul hx hb dX7_shift_169 ?_
                              refine topi_eq (y := nI (60 * jt)) (mN rfl rfl) ?_
                              refine lv_iload_n hx hb dX7_shift_170 rfl (lv_at hl 5 rfl) ?_
                              refine lv_iadd hx hb dX7_shift_171 ?_
                              refine topi_eq (y := nI ((60 * jt) + j101_1)) (aN rfl rfl) ?_
                              refine lv_iload hx hb dX7_shift_172 (lv_at hl 0 rfl) ?_
                              refine lv_iadd hx hb dX7_shift_174 ?_
                              refine topi_eq (y := nI (((60 * jt) + j101_1) + k122)) (aN rfl rfl) ?_
                              refine lald_n hx hb hKX hP 21 rfl rfl (by omega) (by decide) dX7_shift_175 ?_
                              refine last_n hx hb hKX hP hD hS 21 rfl rfl (by omega) (by decide) dX7_shift_176 (fun H locs hP hD hS => ?_)
                              have hP : va_P D vwCl (wX7 cy om om_thrown om_s om_kept om_aside om_isKept om_reaches om_ringOf om_rungOf om_rings om_ringMany om_paid om_leftOf om_ringPaid om_paidAll om_mosts om_text om_signs om_at om_isWrong om_clauses om_letters om_one om_two om_three om_whys om_backs om_sorts om_sizes (vp_updL z122 (((60 * jo) + j101_2) + k122) (z122 (((60 * jt) + j101_1) + k122)))) H := hP
                              have hD : va_D A (wX7 cy om om_thrown om_s om_kept om_aside om_isKept om_reaches om_ringOf om_rungOf om_rings om_ringMany om_paid om_leftOf om_ringPaid om_paidAll om_mosts om_text om_signs om_at om_isWrong om_clauses om_letters om_one om_two om_three om_whys om_backs om_sorts om_sizes (vp_updL z122 (((60 * jo) + j101_2) + k122) (z122 (((60 * jt) + j101_1) + k122)))) := hD
                              refine lv_iinc (v := nI (k122 + 1)) (lv' := [(7, .int (nI (k122 + 1))), (8, .int (nI k122)), (6, .int v117), (0, .ref (om 0)), (1, .int (nI jt)), (2, .int (nI j101_1)), (3, .int (nI jo)), (4, .int (nI j101_2)), (5, .int (nI j101))]) hx hb dX7_shift_177 hl (k := 1) rfl (nI_1 _) (by decide) rfl (fun ls hl => ?_)
                              refine lv_goto (tgt := 122) hx hb dX7_shift_180 (by decide) ?_
                              exact ih122 (vp_updL z122 (((60 * jo) + j101_2) + k122) (z122 (((60 * jt) + j101_1) + k122))) _ _ _ hlt122 (by unfold bd_X7_shiftd_122; (try simp only [hj101, hj101_1, hj101_2]); rw [if_pos c16] <;> rfl) hP hD hS (lv_sub hl [0, 2, 3, 4, 5, 6, 7, 8] rfl)
                            · refine lv_iload hx hb dX7_shift_134 (lv_at hl 7 rfl) ?_
                              refine lv_iconst (v := (1 : Int32)) hx hb dX7_shift_136 (by decide) ?_
                              refine lv_isub hx hb dX7_shift_137 ?_
                              refine topi_eq (y := nI (j101 - 1)) (sN (a := j101) (b := 1) rfl rfl (by omega)) ?_
                              refine lv_iload hx hb dX7_shift_138 (lv_at hl 0 rfl) ?_
                              refine lv_isub hx hb dX7_shift_140 ?_
                              refine topi_eq (y := nI ((j101 - 1) - k122)) (sN (a := j101 - 1) (b := k122) rfl rfl (by omega)) ?_
                              refine lv_goto (tgt := 146) hx hb dX7_shift_141 (by decide) ?_
                              refine lv_istore (lv' := [(8, .int (nI ((j101 - 1) - k122))), (7, .int (nI k122)), (6, .int v117), (0, .ref (om 0)), (1, .int (nI jt)), (2, .int (nI j101_1)), (3, .int (nI jo)), (4, .int (nI j101_2)), (5, .int (nI j101))]) hx hb dX7_shift_146 hl (by decide) rfl (fun ls hl => ?_)
                              refine lv_aload_n hx hb dX7_shift_148 rfl (lv_at hl 3 rfl) ?_
                              refine gf_X7_76 hx hb hG hown hKX hP 0 rfl rfl dX7_shift_149 ?_
                              refine lv_bipush (v := (60 : Int32)) hx hb dX7_shift_152 (by decide) ?_
                              refine lv_iload_n hx hb dX7_shift_154 rfl (lv_at hl 6 rfl) ?_
                              refine lv_imul hx hb dX7_shift_155 ?_
                              refine topi_eq (y := nI (60 * jo)) (mN rfl rfl) ?_
                              refine lv_iload hx hb dX7_shift_156 (lv_at hl 7 rfl) ?_
                              refine lv_iadd hx hb dX7_shift_158 ?_
                              refine topi_eq (y := nI ((60 * jo) + j101_2)) (aN rfl rfl) ?_
                              refine lv_iload hx hb dX7_shift_159 (lv_at hl 0 rfl) ?_
                              refine lv_iadd hx hb dX7_shift_161 ?_
                              refine topi_eq (y := nI (((60 * jo) + j101_2) + ((j101 - 1) - k122))) (aN rfl rfl) ?_
                              refine lv_aload_n hx hb dX7_shift_162 rfl (lv_at hl 3 rfl) ?_
                              refine gf_X7_76 hx hb hG hown hKX hP 0 rfl rfl dX7_shift_163 ?_
                              refine lv_bipush (v := (60 : Int32)) hx hb dX7_shift_166 (by decide) ?_
                              refine lv_iload_n hx hb dX7_shift_168 rfl (lv_at hl 4 rfl) ?_
                              refine lv_imul hx hb dX7_shift_169 ?_
                              refine topi_eq (y := nI (60 * jt)) (mN rfl rfl) ?_
                              refine lv_iload_n hx hb dX7_shift_170 rfl (lv_at hl 5 rfl) ?_
                              refine lv_iadd hx hb dX7_shift_171 ?_
                              refine topi_eq (y := nI ((60 * jt) + j101_1)) (aN rfl rfl) ?_
                              refine lv_iload hx hb dX7_shift_172 (lv_at hl 0 rfl) ?_
                              refine lv_iadd hx hb dX7_shift_174 ?_
                              refine topi_eq (y := nI (((60 * jt) + j101_1) + ((j101 - 1) - k122))) (aN rfl rfl) ?_
                              refine lald_n hx hb hKX hP 21 rfl rfl (by omega) (by decide) dX7_shift_175 ?_
                              refine last_n hx hb hKX hP hD hS 21 rfl rfl (by omega) (by decide) dX7_shift_176 (fun H locs hP hD hS => ?_)
                              have hP : va_P D vwCl (wX7 cy om om_thrown om_s om_kept om_aside om_isKept om_reaches om_ringOf om_rungOf om_rings om_ringMany om_paid om_leftOf om_ringPaid om_paidAll om_mosts om_text om_signs om_at om_isWrong om_clauses om_letters om_one om_two om_three om_whys om_backs om_sorts om_sizes (vp_updL z122 (((60 * jo) + j101_2) + ((j101 - 1) - k122)) (z122 (((60 * jt) + j101_1) + ((j101 - 1) - k122))))) H := hP
                              have hD : va_D A (wX7 cy om om_thrown om_s om_kept om_aside om_isKept om_reaches om_ringOf om_rungOf om_rings om_ringMany om_paid om_leftOf om_ringPaid om_paidAll om_mosts om_text om_signs om_at om_isWrong om_clauses om_letters om_one om_two om_three om_whys om_backs om_sorts om_sizes (vp_updL z122 (((60 * jo) + j101_2) + ((j101 - 1) - k122)) (z122 (((60 * jt) + j101_1) + ((j101 - 1) - k122))))) := hD
                              refine lv_iinc (v := nI (k122 + 1)) (lv' := [(7, .int (nI (k122 + 1))), (8, .int (nI ((j101 - 1) - k122))), (6, .int v117), (0, .ref (om 0)), (1, .int (nI jt)), (2, .int (nI j101_1)), (3, .int (nI jo)), (4, .int (nI j101_2)), (5, .int (nI j101))]) hx hb dX7_shift_177 hl (k := 1) rfl (nI_1 _) (by decide) rfl (fun ls hl => ?_)
                              refine lv_goto (tgt := 122) hx hb dX7_shift_180 (by decide) ?_
                              exact ih122 (vp_updL z122 (((60 * jo) + j101_2) + ((j101 - 1) - k122)) (z122 (((60 * jt) + j101_1) + ((j101 - 1) - k122)))) _ _ _ hlt122 (by unfold bd_X7_shiftd_122; (try simp only [hj101, hj101_1, hj101_2]); rw [if_neg c16] <;> rfl) hP hD hS (lv_sub hl [0, 2, 3, 4, 5, 6, 7, 8] rfl)
                        · refine lv_iconst (v := (1 : Int32)) hx hb dX7_shift_112 (by decide) ?_
                          refine lv_goto (tgt := 117) hx hb dX7_shift_113 (by decide) ?_
                          refine lv_topi (fun v117 ev117 => ?_)
                          refine lv_istore (lv' := [(6, .int v117), (0, .ref (om 0)), (1, .int (nI jt)), (2, .int (nI j101_1)), (3, .int (nI jo)), (4, .int (nI j101_2)), (5, .int (nI j101))]) hx hb dX7_shift_117 hl (by decide) rfl (fun ls hl => ?_)
                          refine lv_iconst (v := (0 : Int32)) hx hb dX7_shift_119 (by decide) ?_
                          refine lv_istore (lv' := [(7, .int (0 : Int32)), (6, .int v117), (0, .ref (om 0)), (1, .int (nI jt)), (2, .int (nI j101_1)), (3, .int (nI jo)), (4, .int (nI j101_2)), (5, .int (nI j101))]) hx hb dX7_shift_120 hl (by decide) rfl (fun ls hl => ?_)
                          refine loopW (bd_X7_shiftd_122 jt jo j101 j101_1 j101_2 v117) om_items j101 (fun k122 z122 => [(7, .int (nI k122)), (6, .int v117), (0, .ref (om 0)), (1, .int (nI jt)), (2, .int (nI j101_1)), (3, .int (nI jo)), (4, .int (nI j101_2)), (5, .int (nI j101))]) (fun k122 z122 => wX7 cy om om_thrown om_s om_kept om_aside om_isKept om_reaches om_ringOf om_rungOf om_rings om_ringMany om_paid om_leftOf om_ringPaid om_paidAll om_mosts om_text om_signs om_at om_isWrong om_clauses om_letters om_one om_two om_three om_whys om_backs om_sorts om_sizes z122) hP hD hS (lv_sub hl [0, 1, 2, 3, 4, 5, 6, 7] rfl) (fun k122 z122 H locs ls hk122 hz122 hP hD hS hl ih122 => ?_)
                          refine lv_iload hx hb dX7_shift_122 (lv_at hl 0 rfl) ?_
                          refine lv_iload hx hb dX7_shift_124 (lv_at hl 7 rfl) ?_
                          refine lv_icmp_ge (tgt := 183) hx hb dX7_shift_126 (by decide) (fun c17 => ?_) (fun c17 => ?_)
                          · have e_k122 : j101 = k122 := Nat.le_antisymm ((le_n (N := j101) (k := k122) rfl (by omega) (by omega)).mp c17) hk122
                            subst e_k122
                            refine lv_iload hx hb dX7_shift_183 (lv_at hl 7 rfl) ?_
                            exact W.iret (v := nI j101) hx hb hr (fun t ht hW => ⟨⟨nI j101, z122, rfl, by subst hz122; subst ev117; unfold f_X7_shiftd; (try simp only [hj101, hj101_1, hj101_2]); rw [if_neg c1, if_neg c2, if_neg c3, if_neg c4, if_pos c5, if_neg c6, if_neg c7, if_neg c8, if_neg c9, if_pos c10, if_pos c11, if_neg c14] <;> rfl, by rw [ht]; exact hP, hD⟩, hS.F ht⟩) hS.2.2 dX7_shift_185
                          · have hlt122 : k122 < j101 := Nat.lt_of_not_le (fun qq_ => c17 ((le_n (N := j101) (k := k122) rfl (by omega) (by omega)).mpr qq_))
                            refine lv_iload hx hb dX7_shift_129 (lv_at hl 1 rfl) ?_
                            refine lv_if_eq (tgt := 144) hx hb dX7_shift_131 (by decide) (fun c18 => ?_) (fun c18 => ?_)
                            · refine lv_iload hx hb dX7_shift_144 (lv_at hl 0 rfl) ?_
                              refine lv_istore (lv' := [(8, .int (nI k122)), (7, .int (nI k122)), (6, .int v117), (0, .ref (om 0)), (1, .int (nI jt)), (2, .int (nI j101_1)), (3, .int (nI jo)), (4, .int (nI j101_2)), (5, .int (nI j101))]) hx hb dX7_shift_146 hl (by decide) rfl (fun ls hl => ?_)
                              refine lv_aload_n hx hb dX7_shift_148 rfl (lv_at hl 3 rfl) ?_
                              refine gf_X7_76 hx hb hG hown hKX hP 0 rfl rfl dX7_shift_149 ?_
                              refine lv_bipush (v := (60 : Int32)) hx hb dX7_shift_152 (by decide) ?_
                              refine lv_iload_n hx hb dX7_shift_154 rfl (lv_at hl 6 rfl) ?_
                              refine lv_imul hx hb dX7_shift_155 ?_
                              refine topi_eq (y := nI (60 * jo)) (mN rfl rfl) ?_
                              refine lv_iload hx hb dX7_shift_156 (lv_at hl 7 rfl) ?_
                              refine lv_iadd hx hb dX7_shift_158 ?_
                              refine topi_eq (y := nI ((60 * jo) + j101_2)) (aN rfl rfl) ?_
                              refine lv_iload hx hb dX7_shift_159 (lv_at hl 0 rfl) ?_
                              refine lv_iadd hx hb dX7_shift_161 ?_
                              refine topi_eq (y := nI (((60 * jo) + j101_2) + k122)) (aN rfl rfl) ?_
                              refine lv_aload_n hx hb dX7_shift_162 rfl (lv_at hl 3 rfl) ?_
                              refine gf_X7_76 hx hb hG hown hKX hP 0 rfl rfl dX7_shift_163 ?_
                              refine lv_bipush (v := (60 : Int32)) hx hb dX7_shift_166 (by decide) ?_
                              refine lv_iload_n hx hb dX7_shift_168 rfl (lv_at hl 4 rfl) ?_
                              refine lv_imul hx hb dX7_shift_169 ?_
                              refine topi_eq (y := nI (60 * jt)) (mN rfl rfl) ?_
                              refine lv_iload_n hx hb dX7_shift_170 rfl (lv_at hl 5 rfl) ?_
                              refine lv_iadd hx hb dX7_shift_171 ?_
                              refine topi_eq (y := nI ((60 * jt) + j101_1)) (aN rfl rfl) ?_
                              refine lv_iload hx hb dX7_shift_172 (lv_at hl 0 rfl) ?_
                              refine lv_iadd hx hb dX7_shift_174 ?_
                              refine topi_eq (y := nI (((60 * jt) + j101_1) + k122)) (aN rfl rfl) ?_
                              refine lald_n hx hb hKX hP 21 rfl rfl (by omega) (by decide) dX7_shift_175 ?_
                              refine last_n hx hb hKX hP hD hS 21 rfl rfl (by omega) (by decide) dX7_shift_176 (fun H locs hP hD hS => ?_)
                              have hP : va_P D vwCl (wX7 cy om om_thrown om_s om_kept om_aside om_isKept om_reaches om_ringOf om_rungOf om_rings om_ringMany om_paid om_leftOf om_ringPaid om_paidAll om_mosts om_text om_signs om_at om_isWrong om_clauses om_letters om_one om_two om_three om_whys om_backs om_sorts om_sizes (vp_updL z122 (((60 * jo) + j101_2) + k122) (z122 (((60 * jt) + j101_1) + k122)))) H := hP
                              have hD : va_D A (wX7 cy om om_thrown om_s om_kept om_aside om_isKept om_reaches om_ringOf om_rungOf om_rings om_ringMany om_paid om_leftOf om_ringPaid om_paidAll om_mosts om_text om_signs om_at om_isWrong om_clauses om_letters om_one om_two om_three om_whys om_backs om_sorts om_sizes (vp_updL z122 (((60 * jo) + j101_2) + k122) (z122 (((60 * jt) + j101_1) + k122)))) := hD
                              refine lv_iinc (v := nI (k122 + 1)) (lv' := [(7, .int (nI (k122 + 1))), (8, .int (nI k122)), (6, .int v117), (0, .ref (om 0)), (1, .int (nI jt)), (2, .int (nI j101_1)), (3, .int (nI jo)), (4, .int (nI j101_2)), (5, .int (nI j101))]) hx hb dX7_shift_177 hl (k := 1) rfl (nI_1 _) (by decide) rfl (fun ls hl => ?_)
                              refine lv_goto (tgt := 122) hx hb dX7_shift_180 (by decide) ?_
                              exact ih122 (vp_updL z122 (((60 * jo) + j101_2) + k122) (z122 (((60 * jt) + j101_1) + k122))) _ _ _ hlt122 (by unfold bd_X7_shiftd_122; (try simp only [hj101, hj101_1, hj101_2]); rw [if_pos c18] <;> rfl) hP hD hS (lv_sub hl [0, 2, 3, 4, 5, 6, 7, 8] rfl)
                            · refine lv_iload hx hb dX7_shift_134 (lv_at hl 7 rfl) ?_
                              refine lv_iconst (v := (1 : Int32)) hx hb dX7_shift_136 (by decide) ?_
                              refine lv_isub hx hb dX7_shift_137 ?_
                              refine topi_eq (y := nI (j101 - 1)) (sN (a := j101) (b := 1) rfl rfl (by omega)) ?_
                              refine lv_iload hx hb dX7_shift_138 (lv_at hl 0 rfl) ?_
                              refine lv_isub hx hb dX7_shift_140 ?_
                              refine topi_eq (y := nI ((j101 - 1) - k122)) (sN (a := j101 - 1) (b := k122) rfl rfl (by omega)) ?_
                              refine lv_goto (tgt := 146) hx hb dX7_shift_141 (by decide) ?_
                              refine lv_istore (lv' := [(8, .int (nI ((j101 - 1) - k122))), (7, .int (nI k122)), (6, .int v117), (0, .ref (om 0)), (1, .int (nI jt)), (2, .int (nI j101_1)), (3, .int (nI jo)), (4, .int (nI j101_2)), (5, .int (nI j101))]) hx hb dX7_shift_146 hl (by decide) rfl (fun ls hl => ?_)
                              refine lv_aload_n hx hb dX7_shift_148 rfl (lv_at hl 3 rfl) ?_
                              refine gf_X7_76 hx hb hG hown hKX hP 0 rfl rfl dX7_shift_149 ?_
                              refine lv_bipush (v := (60 : Int32)) hx hb dX7_shift_152 (by decide) ?_
                              refine lv_iload_n hx hb dX7_shift_154 rfl (lv_at hl 6 rfl) ?_
                              refine lv_imul hx hb dX7_shift_155 ?_
                              refine topi_eq (y := nI (60 * jo)) (mN rfl rfl) ?_
                              refine lv_iload hx hb dX7_shift_156 (lv_at hl 7 rfl) ?_
                              refine lv_iadd hx hb dX7_shift_158 ?_
                              refine topi_eq (y := nI ((60 * jo) + j101_2)) (aN rfl rfl) ?_
                              refine lv_iload hx hb dX7_shift_159 (lv_at hl 0 rfl) ?_
                              refine lv_iadd hx hb dX7_shift_161 ?_
                              refine topi_eq (y := nI (((60 * jo) + j101_2) + ((j101 - 1) - k122))) (aN rfl rfl) ?_
                              refine lv_aload_n hx hb dX7_shift_162 rfl (lv_at hl 3 rfl) ?_
                              refine gf_X7_76 hx hb hG hown hKX hP 0 rfl rfl dX7_shift_163 ?_
                              refine lv_bipush (v := (60 : Int32)) hx hb dX7_shift_166 (by decide) ?_
                              refine lv_iload_n hx hb dX7_shift_168 rfl (lv_at hl 4 rfl) ?_
                              refine lv_imul hx hb dX7_shift_169 ?_
                              refine topi_eq (y := nI (60 * jt)) (mN rfl rfl) ?_
                              refine lv_iload_n hx hb dX7_shift_170 rfl (lv_at hl 5 rfl) ?_
                              refine lv_iadd hx hb dX7_shift_171 ?_
                              refine topi_eq (y := nI ((60 * jt) + j101_1)) (aN rfl rfl) ?_
                              refine lv_iload hx hb dX7_shift_172 (lv_at hl 0 rfl) ?_
                              refine lv_iadd hx hb dX7_shift_174 ?_
                              refine topi_eq (y := nI (((60 * jt) + j101_1) + ((j101 - 1) - k122))) (aN rfl rfl) ?_
                              refine lald_n hx hb hKX hP 21 rfl rfl (by omega) (by decide) dX7_shift_175 ?_
                              refine last_n hx hb hKX hP hD hS 21 rfl rfl (by omega) (by decide) dX7_shift_176 (fun H locs hP hD hS => ?_)
                              have hP : va_P D vwCl (wX7 cy om om_thrown om_s om_kept om_aside om_isKept om_reaches om_ringOf om_rungOf om_rings om_ringMany om_paid om_leftOf om_ringPaid om_paidAll om_mosts om_text om_signs om_at om_isWrong om_clauses om_letters om_one om_two om_three om_whys om_backs om_sorts om_sizes (vp_updL z122 (((60 * jo) + j101_2) + ((j101 - 1) - k122)) (z122 (((60 * jt) + j101_1) + ((j101 - 1) - k122))))) H := hP
                              have hD : va_D A (wX7 cy om om_thrown om_s om_kept om_aside om_isKept om_reaches om_ringOf om_rungOf om_rings om_ringMany om_paid om_leftOf om_ringPaid om_paidAll om_mosts om_text om_signs om_at om_isWrong om_clauses om_letters om_one om_two om_three om_whys om_backs om_sorts om_sizes (vp_updL z122 (((60 * jo) + j101_2) + ((j101 - 1) - k122)) (z122 (((60 * jt) + j101_1) + ((j101 - 1) - k122))))) := hD
                              refine lv_iinc (v := nI (k122 + 1)) (lv' := [(7, .int (nI (k122 + 1))), (8, .int (nI ((j101 - 1) - k122))), (6, .int v117), (0, .ref (om 0)), (1, .int (nI jt)), (2, .int (nI j101_1)), (3, .int (nI jo)), (4, .int (nI j101_2)), (5, .int (nI j101))]) hx hb dX7_shift_177 hl (k := 1) rfl (nI_1 _) (by decide) rfl (fun ls hl => ?_)
                              refine lv_goto (tgt := 122) hx hb dX7_shift_180 (by decide) ?_
                              exact ih122 (vp_updL z122 (((60 * jo) + j101_2) + ((j101 - 1) - k122)) (z122 (((60 * jt) + j101_1) + ((j101 - 1) - k122)))) _ _ _ hlt122 (by unfold bd_X7_shiftd_122; (try simp only [hj101, hj101_1, hj101_2]); rw [if_neg c18] <;> rfl) hP hD hS (lv_sub hl [0, 2, 3, 4, 5, 6, 7, 8] rfl)
                    · refine lv_bipush (v := (-13 : Int32)) hx hb dX7_shift_98 (by decide) ?_
                      exact W.iret (v := (-13 : Int32)) hx hb hr (fun t ht hW => ⟨⟨(-13 : Int32), om_items, rfl, by unfold f_X7_shiftd; rw [if_neg c1, if_neg c2, if_neg c3, if_neg c4, if_pos c5, if_neg c6, if_neg c7, if_neg c8, if_neg c9, if_neg c10] <;> rfl, by rw [ht]; exact hP, hD⟩, hS.F ht⟩) hS.2.2 dX7_shift_100
          · refine lv_bipush (v := (-12 : Int32)) hx hb dX7_shift_54 (by decide) ?_
            exact W.iret (v := (-12 : Int32)) hx hb hr (fun t ht hW => ⟨⟨(-12 : Int32), om_items, rfl, by unfold f_X7_shiftd; rw [if_neg c1, if_neg c2, if_neg c3, if_neg c4, if_neg c5] <;> rfl, by rw [ht]; exact hP, hD⟩, hS.F ht⟩) hS.2.2 dX7_shift_56
        · refine lv_bipush (v := (-11 : Int32)) hx hb dX7_shift_36 (by decide) ?_
          exact W.iret (v := (-11 : Int32)) hx hb hr (fun t ht hW => ⟨⟨(-11 : Int32), om_items, rfl, by unfold f_X7_shiftd; rw [if_neg c1, if_neg c2, if_neg c3, if_pos c4] <;> rfl, by rw [ht]; exact hP, hD⟩, hS.F ht⟩) hS.2.2 dX7_shift_38
    · refine lv_iconst (v := (-1 : Int32)) hx hb dX7_shift_14 (by decide) ?_
      exact W.iret (v := (-1 : Int32)) hx hb hr (fun t ht hW => ⟨⟨(-1 : Int32), om_items, rfl, by unfold f_X7_shiftd; rw [if_neg c1, if_pos c2] <;> rfl, by rw [ht]; exact hP, hD⟩, hS.F ht⟩) hS.2.2 dX7_shift_15
