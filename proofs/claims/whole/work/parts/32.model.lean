theorem sh_le {a b m : Nat} (ha : a < 2 ^ 31) (hb : b < 2 ^ 31) (hm : m ≤ 60) (h : ¬ (nI m - nI b) < nI a) : a + b ≤ m := by
  have e : (nI m - nI b).toInt = (m : Int) - b := by
    rw [Int32.toInt_sub, nI_toInt (by omega), nI_toInt hb, Jvm.Kit.bmod32 (by omega) (by omega)]
  have h2 : ¬ (nI m - nI b).toInt < (nI a).toInt := fun q => h (Int32.lt_iff_toInt_lt.mpr q)
  rw [e, nI_toInt ha] at h2
  omega
theorem sh_le2 {a b m : Nat} (ha : a < 2 ^ 31) (hb : b < 2 ^ 31) (hm : m ≤ 60) (h : nI a ≤ (nI m - nI b)) : a + b ≤ m := sh_le ha hb hm (Int32.not_lt.mpr h)
theorem jplace {P : Int64} {m : Nat} (hm : m ≤ 60) (h1 : ¬ lg_cmp P 0 < 0) (h2 : lg_cmp P (nI m).toInt64 < 0) : P.toInt32 = nI P.toInt32.toNatClampNeg ∧ P.toInt32.toNatClampNeg < m := by
  have hm2 : ((nI m).toInt64).toInt = m := by rw [Int32.toInt_toInt64, nI_toInt (by omega)]
  have g1 : ¬ P.toInt < 0 := by
    intro q
    refine h1 ?_
    unfold lg_cmp
    have e0 : (0 : Int64).toInt = 0 := by decide
    rw [if_neg (fun r => by have := Int64.lt_iff_toInt_lt.mp r; rw [e0] at this; omega), if_neg (fun r => by rw [r, e0] at q; omega)]
    decide
  have g2 : P.toInt < m := by
    refine Int.lt_of_not_ge (fun q => ?_)
    unfold lg_cmp at h2
    by_cases c1 : P > (nI m).toInt64
    · rw [if_pos c1] at h2; exact absurd h2 (by decide)
    · rw [if_neg c1] at h2
      have c3 : P = (nI m).toInt64 := by
        refine Int64.toInt_inj.mp ?_
        have c4 : ¬ ((nI m).toInt64).toInt < P.toInt := fun r => c1 (Int64.lt_iff_toInt_lt.mpr r)
        rw [hm2] at c4 ⊢
        omega
      rw [if_pos c3] at h2; exact absurd h2 (by decide)
  have e : P.toInt32.toInt = P.toInt := Jvm.Kit.i32_of_i64 (by omega) (by omega)
  have hnn : ¬ P.toInt32 < 0 := by
    intro q
    have h9 := Int32.lt_iff_toInt_lt.mp q
    have e0 : (0 : Int32).toInt = 0 := by decide
    omega
  obtain ⟨j, hj, hP⟩ := nI_of hnn
  rw [hP, nI_clamp hj]
  refine ⟨rfl, ?_⟩
  rw [hP, nI_toInt hj] at e
  omega
def f_X7_feed (om_text : Nat → Int32) (sign : Int32) (ln : Nat) : Int32 × (Nat → Int32) × Nat :=
  if (f_X7_in ((sign).toInt64) (0 : Int64) (127 : Int64)) = (0 : Int32) then ((-2 : Int32), (om_text, ln)) else (if nI ln = (100 : Int32) then ((-4 : Int32), (om_text, ln)) else (nI (ln + 1), (upd om_text ln sign, ln + 1)))
set_option maxHeartbeats 4000000 in
set_option maxRecDepth 100000 in
theorem c_X7_feed (l : Launch) (D : va_G) (cy : Nat → ClassId) (om : Nat → Nat) (om_thrown : Int32) (om_s : Nat → Int32) (om_kept : Nat → Int32) (om_aside : Nat → Int32) (om_isKept : Int32) (om_reaches : Nat → Int32) (om_ringOf : Nat → Int32) (om_rungOf : Nat → Int32) (om_rings : Nat → Int32) (om_ringMany : Int32) (om_paid : Nat → Int32) (om_leftOf : Nat → Int32) (om_ringPaid : Nat → Int32) (om_paidAll : Int32) (om_mosts : Nat → Int32) (om_text : Nat → Int32) (om_at : Int32) (om_isWrong : Int32) (om_clauses : Int32) (om_letters : Nat → Int32) (om_one : Nat → Int32) (om_two : Nat → Int32) (om_three : Nat → Int32) (om_whys : Nat → Int32) (om_backs : Nat → Int32) (om_sorts : Nat → Int32) (om_sizes : Nat → Int32) (om_items : Nat → Int64) (sign : Int32) (ln : Nat) (hln : ln ≤ 100) : RwI (S := (Nat → Int32) × Nat) l D cy yX7_feed (.code yX7_feed cX7_feed 2 (some .int)) 1 (wX7 cy om om_thrown om_s om_kept om_aside om_isKept om_reaches om_ringOf om_rungOf om_rings om_ringMany om_paid om_leftOf om_ringPaid om_paidAll om_mosts om_text (nI ln) om_at om_isWrong om_clauses om_letters om_one om_two om_three om_whys om_backs om_sorts om_sizes om_items) [.ref (om 0), .int sign] (fun rr u => (rr, u) = f_X7_feed om_text sign ln) (fun u => wX7 cy om om_thrown om_s om_kept om_aside om_isKept om_reaches om_ringOf om_rungOf om_rings om_ringMany om_paid om_leftOf om_ringPaid om_paidAll om_mosts u.1 (nI u.2) om_at om_isWrong om_clauses om_letters om_one om_two om_three om_whys om_backs om_sorts om_sizes om_items) := by
  intro sz
  refine Met.ofW (cc := cX7_feed) (maxL := 2) (ret := (some .int)) (by decide) rfl ?_
  intro pP eE s0 mM args below meth cC s₁ B hml hv
  obtain ⟨rfl, hsz, hP, hKX, hD0⟩ := hv
  have hx := B.exec
  have hb := B.bytes
  have hr := B.returns
  have hG := gw_hts (atoms_spec (ws := _) B.pre)
  have hown : s0.vm.findClass RX7 = some mM.cls := findClass_of_methodNamed B.named
  have hlocks := B.notSynchronized
  subst hsz
  have hD := hD0.self (sz := s0.heap.size)
  generalize hAe : va_A (wX7 cy om om_thrown om_s om_kept om_aside om_isKept om_reaches om_ringOf om_rungOf om_rings om_ringMany om_paid om_leftOf om_ringPaid om_paidAll om_mosts om_text (nI ln) om_at om_isWrong om_clauses om_letters om_one om_two om_three om_whys om_backs om_sorts om_sizes om_items) s0.heap.size = A at hD ⊢
  have hA : ∀ q : Nat, s0.heap.size ≤ q → A q := fun q h => by rw [← hAe]; exact Or.inr h
  have hS : va_S A s0.heap s0.heap [] := va_S.rf
  have hl := lv_entry ([.ref (om 0), .int sign]) (n := 2) (Nat.le_of_ble_eq_true rfl)
  rw [lg_entry_eq]
  generalize (lg_sl ([.ref (om 0), .int sign]) ++ List.replicate (2 - (lg_sl ([.ref (om 0), .int sign])).length) Slot.unset).toArray = ls at hl ⊢
  have hl : lv_has ls 2 [(0, .ref (om 0)), (1, .int sign)] := hl
  refine lv_iload_n hx hb dX7_feed_0 rfl (lv_at hl 1 rfl) ?_
  refine lv_i2l (v := ((sign).toInt64)) hx hb dX7_feed_1 rfl ?_
  refine lv_lconst (v := (0 : Int64)) hx hb dX7_feed_2 (by decide) ?_
  refine lv_ldc2 (v := (127 : Int64)) hx hb hown (hG _ mw17_6) dX7_feed_3 ?_
  refine cRoS mw7_3 mw7_4 mw1_5 mw7_5 hd_X7_in hx hb hml hown hG hKX (c_X7_in l D cy ((sign).toInt64) (0 : Int64) (127 : Int64)) ⟨Nat.le_of_ble_eq_true rfl, Nat.le_of_ble_eq_true rfl⟩ ⟨Nat.zero_le _, Nat.zero_le _⟩ (hP.sub [] rfl) rfl hl.1 rfl (Nat.le_of_ble_eq_true rfl) dX7_feed_6 ?_
  refine lv_if_ne (tgt := 15) hx hb dX7_feed_9 (by decide) (fun c1 => ?_) (fun c1 => ?_)
  · refine lv_aload_n hx hb dX7_feed_15 rfl (lv_at hl 0 rfl) ?_
    refine gf_X7_156 hx hb hG hown hKX hP 0 rfl rfl dX7_feed_16 ?_
    refine lv_bipush (v := (100 : Int32)) hx hb dX7_feed_19 (by decide) ?_
    refine lv_icmp_ne (tgt := 27) hx hb dX7_feed_21 (by decide) (fun c2 => ?_) (fun c2 => ?_)
    · have hlnlt : ln < 100 := by have h9 : ln ≠ 100 := fun q9 => c2 (by rw [q9]; rfl); omega
      refine lv_aload_n hx hb dX7_feed_27 rfl (lv_at hl 0 rfl) ?_
      refine gf_X7_49 hx hb hG hown hKX hP 0 rfl rfl dX7_feed_28 ?_
      refine lv_aload_n hx hb dX7_feed_31 rfl (lv_at hl 0 rfl) ?_
      refine gf_X7_156 hx hb hG hown hKX hP 0 rfl rfl dX7_feed_32 ?_
      refine lv_iload_n hx hb dX7_feed_35 rfl (lv_at hl 1 rfl) ?_
      refine iast_n hx hb hKX hP hD hS 12 rfl rfl (by omega) (by decide) dX7_feed_36 (fun H locs hP hD hS => ?_)
      have hP : va_P D vwCl (wX7 cy om om_thrown om_s om_kept om_aside om_isKept om_reaches om_ringOf om_rungOf om_rings om_ringMany om_paid om_leftOf om_ringPaid om_paidAll om_mosts (upd om_text ln sign) (nI ln) om_at om_isWrong om_clauses om_letters om_one om_two om_three om_whys om_backs om_sorts om_sizes om_items) H := hP
      have hD : va_D A (wX7 cy om om_thrown om_s om_kept om_aside om_isKept om_reaches om_ringOf om_rungOf om_rings om_ringMany om_paid om_leftOf om_ringPaid om_paidAll om_mosts (upd om_text ln sign) (nI ln) om_at om_isWrong om_clauses om_letters om_one om_two om_three om_whys om_backs om_sorts om_sizes om_items) := hD
      refine lv_aload_n hx hb dX7_feed_37 rfl (lv_at hl 0 rfl) ?_
      refine lv_dup hx hb dX7_feed_38 rfl ?_
      refine gf_X7_156 hx hb hG hown hKX hP 0 rfl rfl dX7_feed_39 ?_
      refine lv_iconst (v := (1 : Int32)) hx hb dX7_feed_42 (by decide) ?_
      refine lv_iadd hx hb dX7_feed_43 ?_
      refine topi_eq (y := nI (ln + 1)) (aN rfl rfl) ?_
      refine pf_X7_156 hx hb hG hown hKX hP hD hS 0 rfl rfl rfl (Nat.le_of_ble_eq_true rfl) dX7_feed_44 (wn := wX7 cy om om_thrown om_s om_kept om_aside om_isKept om_reaches om_ringOf om_rungOf om_rings om_ringMany om_paid om_leftOf om_ringPaid om_paidAll om_mosts (upd om_text ln sign) (nI (ln + 1)) om_at om_isWrong om_clauses om_letters om_one om_two om_three om_whys om_backs om_sorts om_sizes om_items) rfl (fun H locs hP hD hS => ?_)
      refine lv_aload_n hx hb dX7_feed_47 rfl (lv_at hl 0 rfl) ?_
      refine gf_X7_156 hx hb hG hown hKX hP 0 rfl rfl dX7_feed_48 ?_
      exact W.iret (v := nI (ln + 1)) hx hb hr (fun t ht hW => ⟨⟨nI (ln + 1), (upd om_text ln sign, ln + 1), rfl, by unfold f_X7_feed; rw [if_neg c1, if_neg c2] <;> rfl, by rw [ht]; exact hP, hD⟩, hS.F ht⟩) hS.2.2 dX7_feed_51
    · refine lv_bipush (v := (-4 : Int32)) hx hb dX7_feed_24 (by decide) ?_
      exact W.iret (v := (-4 : Int32)) hx hb hr (fun t ht hW => ⟨⟨(-4 : Int32), (om_text, ln), rfl, by unfold f_X7_feed; rw [if_neg c1, if_pos c2] <;> rfl, by rw [ht]; exact hP, hD⟩, hS.F ht⟩) hS.2.2 dX7_feed_26
  · refine lv_bipush (v := (-2 : Int32)) hx hb dX7_feed_12 (by decide) ?_
    exact W.iret (v := (-2 : Int32)) hx hb hr (fun t ht hW => ⟨⟨(-2 : Int32), (om_text, ln), rfl, by unfold f_X7_feed; rw [if_pos c1] <;> rfl, by rw [ht]; exact hP, hD⟩, hS.F ht⟩) hS.2.2 dX7_feed_14
def f_X7_see (om_s : Nat → Int32) (c : Int32) (v : Int32) (n : Nat) (q : Nat) : Int32 × (Nat → Int32) :=
  if c = (-1 : Int32) then ((0 : Int32), upd om_s 2 (0 : Int32)) else (if (f_X7_isOne c n) = (0 : Int32) then ((-1 : Int32), om_s) else (if (f_X7_in ((v).toInt64) (0 : Int64) (99 : Int64)) = (0 : Int32) then ((-2 : Int32), om_s) else (if nI q = (5 : Int32) then ((-4 : Int32), om_s) else (nI (q + 1), upd (upd (upd om_s (35 + q) (nI c.toNatClampNeg)) (40 + q) v) 2 (nI (q + 1))))))
set_option maxHeartbeats 4000000 in
set_option maxRecDepth 100000 in
theorem c_X7_see (l : Launch) (D : va_G) (cy : Nat → ClassId) (om : Nat → Nat) (om_thrown : Int32) (om_s : Nat → Int32) (om_kept : Nat → Int32) (om_aside : Nat → Int32) (om_isKept : Int32) (om_reaches : Nat → Int32) (om_ringOf : Nat → Int32) (om_rungOf : Nat → Int32) (om_rings : Nat → Int32) (om_ringMany : Int32) (om_paid : Nat → Int32) (om_leftOf : Nat → Int32) (om_ringPaid : Nat → Int32) (om_paidAll : Int32) (om_mosts : Nat → Int32) (om_text : Nat → Int32) (om_signs : Int32) (om_at : Int32) (om_isWrong : Int32) (om_clauses : Int32) (om_letters : Nat → Int32) (om_one : Nat → Int32) (om_two : Nat → Int32) (om_three : Nat → Int32) (om_whys : Nat → Int32) (om_backs : Nat → Int32) (om_sorts : Nat → Int32) (om_sizes : Nat → Int32) (om_items : Nat → Int64) (c : Int32) (v : Int32) (n : Nat) (q : Nat) (hn : n ≤ 6) (hs0 : om_s 0 = nI n) (hs2 : om_s 2 = nI q) (hq : q ≤ 5) : RwI (S := (Nat → Int32)) l D cy yX7_see (.code yX7_see cX7_see 3 (some .int)) 2 (wX7 cy om om_thrown om_s om_kept om_aside om_isKept om_reaches om_ringOf om_rungOf om_rings om_ringMany om_paid om_leftOf om_ringPaid om_paidAll om_mosts om_text om_signs om_at om_isWrong om_clauses om_letters om_one om_two om_three om_whys om_backs om_sorts om_sizes om_items) [.ref (om 0), .int c, .int v] (fun rr u => (rr, u) = f_X7_see om_s c v n q) (fun u => wX7 cy om om_thrown u om_kept om_aside om_isKept om_reaches om_ringOf om_rungOf om_rings om_ringMany om_paid om_leftOf om_ringPaid om_paidAll om_mosts om_text om_signs om_at om_isWrong om_clauses om_letters om_one om_two om_three om_whys om_backs om_sorts om_sizes om_items) := by
  intro sz
  refine Met.ofW (cc := cX7_see) (maxL := 3) (ret := (some .int)) (by decide) rfl ?_
  intro pP eE s0 mM args below meth cC s₁ B hml hv
  obtain ⟨rfl, hsz, hP, hKX, hD0⟩ := hv
  have hx := B.exec
  have hb := B.bytes
  have hr := B.returns
  have hG := gw_hts (atoms_spec (ws := _) B.pre)
  have hown : s0.vm.findClass RX7 = some mM.cls := findClass_of_methodNamed B.named
  have hlocks := B.notSynchronized
  subst hsz
  have hD := hD0.self (sz := s0.heap.size)
  generalize hAe : va_A (wX7 cy om om_thrown om_s om_kept om_aside om_isKept om_reaches om_ringOf om_rungOf om_rings om_ringMany om_paid om_leftOf om_ringPaid om_paidAll om_mosts om_text om_signs om_at om_isWrong om_clauses om_letters om_one om_two om_three om_whys om_backs om_sorts om_sizes om_items) s0.heap.size = A at hD ⊢
  have hA : ∀ q : Nat, s0.heap.size ≤ q → A q := fun q h => by rw [← hAe]; exact Or.inr h
  have hS : va_S A s0.heap s0.heap [] := va_S.rf
  have hl := lv_entry ([.ref (om 0), .int c, .int v]) (n := 3) (Nat.le_of_ble_eq_true rfl)
  rw [lg_entry_eq]
  generalize (lg_sl ([.ref (om 0), .int c, .int v]) ++ List.replicate (3 - (lg_sl ([.ref (om 0), .int c, .int v])).length) Slot.unset).toArray = ls at hl ⊢
  have hl : lv_has ls 3 [(0, .ref (om 0)), (1, .int c), (2, .int v)] := hl
  refine lv_iload_n hx hb dX7_see_0 rfl (lv_at hl 1 rfl) ?_
  refine lv_iconst (v := (-1 : Int32)) hx hb dX7_see_1 (by decide) ?_
  refine lv_icmp_ne (tgt := 14) hx hb dX7_see_2 (by decide) (fun c1 => ?_) (fun c1 => ?_)
  · refine lv_aload_n hx hb dX7_see_14 rfl (lv_at hl 0 rfl) ?_
    refine lv_iload_n hx hb dX7_see_15 rfl (lv_at hl 1 rfl) ?_
    refine cRoV (q0 := 0) (ci := 7) mw8_2 mw8_3 mw8_4 mw1_5 mw8_5 rfl rfl hd_X7_isOne hx hb hml hown hG hKX (c_X7_isOne l D cy om om_thrown om_s om_kept om_aside om_isKept om_reaches om_ringOf om_rungOf om_rings om_ringMany om_paid om_leftOf om_ringPaid om_paidAll om_mosts om_text om_signs om_at om_isWrong om_clauses om_letters om_one om_two om_three om_whys om_backs om_sorts om_sizes om_items c n hn hs0) ⟨Nat.le_of_ble_eq_true rfl, Nat.le_of_ble_eq_true rfl⟩ ⟨Nat.zero_le _, Nat.zero_le _⟩ hP rfl rfl hl.1 rfl (Nat.le_of_ble_eq_true rfl) dX7_see_16 ?_
    refine lv_if_ne (tgt := 24) hx hb dX7_see_19 (by decide) (fun c2 => ?_) (fun c2 => ?_)
    · obtain ⟨j19, hj19, hlj19, rfl⟩ := isO_of (by omega) c2
      refine lv_iload_n hx hb dX7_see_24 rfl (lv_at hl 2 rfl) ?_
      refine lv_i2l (v := ((v).toInt64)) hx hb dX7_see_25 rfl ?_
      refine lv_lconst (v := (0 : Int64)) hx hb dX7_see_26 (by decide) ?_
      refine lv_ldc2 (v := (99 : Int64)) hx hb hown (hG _ mw7_1) dX7_see_27 ?_
      refine cRoS mw7_3 mw7_4 mw1_5 mw7_5 hd_X7_in hx hb hml hown hG hKX (c_X7_in l D cy ((v).toInt64) (0 : Int64) (99 : Int64)) ⟨Nat.le_of_ble_eq_true rfl, Nat.le_of_ble_eq_true rfl⟩ ⟨Nat.zero_le _, Nat.zero_le _⟩ (hP.sub [] rfl) rfl hl.1 rfl (Nat.le_of_ble_eq_true rfl) dX7_see_30 ?_
      refine lv_if_ne (tgt := 39) hx hb dX7_see_33 (by decide) (fun c3 => ?_) (fun c3 => ?_)
      · refine lv_aload_n hx hb dX7_see_39 rfl (lv_at hl 0 rfl) ?_
        refine gf_X7_15 hx hb hG hown hKX hP 0 rfl rfl dX7_see_40 ?_
        refine lv_iconst (v := (2 : Int32)) hx hb dX7_see_43 (by decide) ?_
        refine iald_v hx hb hKX hP 1 rfl rfl (by decide) (by decide) hs2 dX7_see_44 ?_
        refine lv_iconst (v := (5 : Int32)) hx hb dX7_see_45 (by decide) ?_
        refine lv_icmp_ne (tgt := 52) hx hb dX7_see_46 (by decide) (fun c4 => ?_) (fun c4 => ?_)
        · have hqlt : q < 5 := by have h9 : q ≠ 5 := fun q9 => c4 (by rw [q9]; rfl); omega
          refine lv_aload_n hx hb dX7_see_52 rfl (lv_at hl 0 rfl) ?_
          refine gf_X7_15 hx hb hG hown hKX hP 0 rfl rfl dX7_see_53 ?_
          refine lv_bipush (v := (35 : Int32)) hx hb dX7_see_56 (by decide) ?_
          refine lv_aload_n hx hb dX7_see_58 rfl (lv_at hl 0 rfl) ?_
          refine gf_X7_15 hx hb hG hown hKX hP 0 rfl rfl dX7_see_59 ?_
          refine lv_iconst (v := (2 : Int32)) hx hb dX7_see_62 (by decide) ?_
          refine iald_v hx hb hKX hP 1 rfl rfl (by decide) (by decide) hs2 dX7_see_63 ?_
          refine lv_iadd hx hb dX7_see_64 ?_
          refine topi_eq (y := nI (35 + q)) (aN rfl rfl) ?_
          refine lv_iload_n hx hb dX7_see_65 rfl (lv_at hl 1 rfl) ?_
          refine iast_n hx hb hKX hP hD hS 1 rfl rfl (by omega) (by decide) dX7_see_66 (fun H locs hP hD hS => ?_)
          have hP : va_P D vwCl (wX7 cy om om_thrown (upd om_s (35 + q) (nI j19)) om_kept om_aside om_isKept om_reaches om_ringOf om_rungOf om_rings om_ringMany om_paid om_leftOf om_ringPaid om_paidAll om_mosts om_text om_signs om_at om_isWrong om_clauses om_letters om_one om_two om_three om_whys om_backs om_sorts om_sizes om_items) H := hP
          have hD : va_D A (wX7 cy om om_thrown (upd om_s (35 + q) (nI j19)) om_kept om_aside om_isKept om_reaches om_ringOf om_rungOf om_rings om_ringMany om_paid om_leftOf om_ringPaid om_paidAll om_mosts om_text om_signs om_at om_isWrong om_clauses om_letters om_one om_two om_three om_whys om_backs om_sorts om_sizes om_items) := hD
          refine lv_aload_n hx hb dX7_see_67 rfl (lv_at hl 0 rfl) ?_
          refine gf_X7_15 hx hb hG hown hKX hP 0 rfl rfl dX7_see_68 ?_
          refine lv_bipush (v := (40 : Int32)) hx hb dX7_see_71 (by decide) ?_
          refine lv_aload_n hx hb dX7_see_73 rfl (lv_at hl 0 rfl) ?_
          refine gf_X7_15 hx hb hG hown hKX hP 0 rfl rfl dX7_see_74 ?_
          refine lv_iconst (v := (2 : Int32)) hx hb dX7_see_77 (by decide) ?_
          refine iald_v hx hb hKX hP 1 rfl rfl (by decide) (by decide) ((pk_un (j := 2) (by omega)).trans hs2) dX7_see_78 ?_
          refine lv_iadd hx hb dX7_see_79 ?_
          refine topi_eq (y := nI (40 + q)) (aN rfl rfl) ?_
          refine lv_iload_n hx hb dX7_see_80 rfl (lv_at hl 2 rfl) ?_
          refine iast_n hx hb hKX hP hD hS 1 rfl rfl (by omega) (by decide) dX7_see_81 (fun H locs hP hD hS => ?_)
          have hP : va_P D vwCl (wX7 cy om om_thrown (upd (upd om_s (35 + q) (nI j19)) (40 + q) v) om_kept om_aside om_isKept om_reaches om_ringOf om_rungOf om_rings om_ringMany om_paid om_leftOf om_ringPaid om_paidAll om_mosts om_text om_signs om_at om_isWrong om_clauses om_letters om_one om_two om_three om_whys om_backs om_sorts om_sizes om_items) H := hP
          have hD : va_D A (wX7 cy om om_thrown (upd (upd om_s (35 + q) (nI j19)) (40 + q) v) om_kept om_aside om_isKept om_reaches om_ringOf om_rungOf om_rings om_ringMany om_paid om_leftOf om_ringPaid om_paidAll om_mosts om_text om_signs om_at om_isWrong om_clauses om_letters om_one om_two om_three om_whys om_backs om_sorts om_sizes om_items) := hD
          refine lv_aload_n hx hb dX7_see_82 rfl (lv_at hl 0 rfl) ?_
          refine gf_X7_15 hx hb hG hown hKX hP 0 rfl rfl dX7_see_83 ?_
          refine lv_iconst (v := (2 : Int32)) hx hb dX7_see_86 (by decide) ?_
          refine lv_dup2_11 hx hb dX7_see_87 rfl rfl ?_
          refine iald_v hx hb hKX hP 1 rfl rfl (by decide) (by decide) ((pk_un (j := 2) (by omega)).trans ((pk_un (j := 2) (by omega)).trans hs2)) dX7_see_88 ?_
          refine lv_iconst (v := (1 : Int32)) hx hb dX7_see_89 (by decide) ?_
          refine lv_iadd hx hb dX7_see_90 ?_
          refine topi_eq (y := nI (q + 1)) (aN rfl rfl) ?_
          refine iast_n hx hb hKX hP hD hS 1 rfl rfl (by decide) (by decide) dX7_see_91 (fun H locs hP hD hS => ?_)
          have hP : va_P D vwCl (wX7 cy om om_thrown (upd (upd (upd om_s (35 + q) (nI j19)) (40 + q) v) 2 (nI (q + 1))) om_kept om_aside om_isKept om_reaches om_ringOf om_rungOf om_rings om_ringMany om_paid om_leftOf om_ringPaid om_paidAll om_mosts om_text om_signs om_at om_isWrong om_clauses om_letters om_one om_two om_three om_whys om_backs om_sorts om_sizes om_items) H := hP
          have hD : va_D A (wX7 cy om om_thrown (upd (upd (upd om_s (35 + q) (nI j19)) (40 + q) v) 2 (nI (q + 1))) om_kept om_aside om_isKept om_reaches om_ringOf om_rungOf om_rings om_ringMany om_paid om_leftOf om_ringPaid om_paidAll om_mosts om_text om_signs om_at om_isWrong om_clauses om_letters om_one om_two om_three om_whys om_backs om_sorts om_sizes om_items) := hD
          refine lv_aload_n hx hb dX7_see_92 rfl (lv_at hl 0 rfl) ?_
          refine gf_X7_15 hx hb hG hown hKX hP 0 rfl rfl dX7_see_93 ?_
          refine lv_iconst (v := (2 : Int32)) hx hb dX7_see_96 (by decide) ?_
          refine iald_v hx hb hKX hP 1 rfl rfl (by decide) (by decide) pk_us dX7_see_97 ?_
          exact W.iret (v := nI (q + 1)) hx hb hr (fun t ht hW => ⟨⟨nI (q + 1), upd (upd (upd om_s (35 + q) (nI j19)) (40 + q) v) 2 (nI (q + 1)), rfl, by unfold f_X7_see; (try simp only [hj19]); rw [if_neg c1, if_neg c2, if_neg c3, if_neg c4] <;> rfl, by rw [ht]; exact hP, hD⟩, hS.F ht⟩) hS.2.2 dX7_see_98
        · refine lv_bipush (v := (-4 : Int32)) hx hb dX7_see_49 (by decide) ?_
          exact W.iret (v := (-4 : Int32)) hx hb hr (fun t ht hW => ⟨⟨(-4 : Int32), om_s, rfl, by unfold f_X7_see; (try simp only [hj19]); rw [if_neg c1, if_neg c2, if_neg c3, if_pos c4] <;> rfl, by rw [ht]; exact hP, hD⟩, hS.F ht⟩) hS.2.2 dX7_see_51
      · refine lv_bipush (v := (-2 : Int32)) hx hb dX7_see_36 (by decide) ?_
        exact W.iret (v := (-2 : Int32)) hx hb hr (fun t ht hW => ⟨⟨(-2 : Int32), om_s, rfl, by unfold f_X7_see; (try simp only [hj19]); rw [if_neg c1, if_neg c2, if_pos c3] <;> rfl, by rw [ht]; exact hP, hD⟩, hS.F ht⟩) hS.2.2 dX7_see_38
    · refine lv_iconst (v := (-1 : Int32)) hx hb dX7_see_22 (by decide) ?_
      exact W.iret (v := (-1 : Int32)) hx hb hr (fun t ht hW => ⟨⟨(-1 : Int32), om_s, rfl, by unfold f_X7_see; rw [if_neg c1, if_pos c2] <;> rfl, by rw [ht]; exact hP, hD⟩, hS.F ht⟩) hS.2.2 dX7_see_23
  · refine lv_aload_n hx hb dX7_see_5 rfl (lv_at hl 0 rfl) ?_
    refine gf_X7_15 hx hb hG hown hKX hP 0 rfl rfl dX7_see_6 ?_
    refine lv_iconst (v := (2 : Int32)) hx hb dX7_see_9 (by decide) ?_
    refine lv_iconst (v := (0 : Int32)) hx hb dX7_see_10 (by decide) ?_
    refine iast_n hx hb hKX hP hD hS 1 rfl rfl (by decide) (by decide) dX7_see_11 (fun H locs hP hD hS => ?_)
    have hP : va_P D vwCl (wX7 cy om om_thrown (upd om_s 2 (0 : Int32)) om_kept om_aside om_isKept om_reaches om_ringOf om_rungOf om_rings om_ringMany om_paid om_leftOf om_ringPaid om_paidAll om_mosts om_text om_signs om_at om_isWrong om_clauses om_letters om_one om_two om_three om_whys om_backs om_sorts om_sizes om_items) H := hP
    have hD : va_D A (wX7 cy om om_thrown (upd om_s 2 (0 : Int32)) om_kept om_aside om_isKept om_reaches om_ringOf om_rungOf om_rings om_ringMany om_paid om_leftOf om_ringPaid om_paidAll om_mosts om_text om_signs om_at om_isWrong om_clauses om_letters om_one om_two om_three om_whys om_backs om_sorts om_sizes om_items) := hD
    refine lv_iconst (v := (0 : Int32)) hx hb dX7_see_12 (by decide) ?_
    exact W.iret (v := (0 : Int32)) hx hb hr (fun t ht hW => ⟨⟨(0 : Int32), upd om_s 2 (0 : Int32), rfl, by unfold f_X7_see; rw [if_pos c1] <;> rfl, by rw [ht]; exact hP, hD⟩, hS.F ht⟩) hS.2.2 dX7_see_13
def f_X7_book (om_s : Nat → Int32) (c : Int32) (v : Int32) (n : Nat) (q : Nat) : Int32 × (Nat → Int32) :=
  if c = (-1 : Int32) then ((0 : Int32), upd om_s 4 (0 : Int32)) else (if (f_X7_isOne c n) = (0 : Int32) then ((-1 : Int32), om_s) else (if (f_X7_in ((v).toInt64) (0 : Int64) (99 : Int64)) = (0 : Int32) then ((-2 : Int32), om_s) else (if nI q = (8 : Int32) then ((-4 : Int32), om_s) else (nI (q + 1), upd (upd (upd om_s (61 + q) (nI c.toNatClampNeg)) (69 + q) v) 4 (nI (q + 1))))))
set_option maxHeartbeats 4000000 in
set_option maxRecDepth 100000 in
theorem c_X7_book (l : Launch) (D : va_G) (cy : Nat → ClassId) (om : Nat → Nat) (om_thrown : Int32) (om_s : Nat → Int32) (om_kept : Nat → Int32) (om_aside : Nat → Int32) (om_isKept : Int32) (om_reaches : Nat → Int32) (om_ringOf : Nat → Int32) (om_rungOf : Nat → Int32) (om_rings : Nat → Int32) (om_ringMany : Int32) (om_paid : Nat → Int32) (om_leftOf : Nat → Int32) (om_ringPaid : Nat → Int32) (om_paidAll : Int32) (om_mosts : Nat → Int32) (om_text : Nat → Int32) (om_signs : Int32) (om_at : Int32) (om_isWrong : Int32) (om_clauses : Int32) (om_letters : Nat → Int32) (om_one : Nat → Int32) (om_two : Nat → Int32) (om_three : Nat → Int32) (om_whys : Nat → Int32) (om_backs : Nat → Int32) (om_sorts : Nat → Int32) (om_sizes : Nat → Int32) (om_items : Nat → Int64) (c : Int32) (v : Int32) (n : Nat) (q : Nat) (hn : n ≤ 6) (hs0 : om_s 0 = nI n) (hs4 : om_s 4 = nI q) (hq : q ≤ 8) : RwI (S := (Nat → Int32)) l D cy yX7_book (.code yX7_book cX7_book 3 (some .int)) 2 (wX7 cy om om_thrown om_s om_kept om_aside om_isKept om_reaches om_ringOf om_rungOf om_rings om_ringMany om_paid om_leftOf om_ringPaid om_paidAll om_mosts om_text om_signs om_at om_isWrong om_clauses om_letters om_one om_two om_three om_whys om_backs om_sorts om_sizes om_items) [.ref (om 0), .int c, .int v] (fun rr u => (rr, u) = f_X7_book om_s c v n q) (fun u => wX7 cy om om_thrown u om_kept om_aside om_isKept om_reaches om_ringOf om_rungOf om_rings om_ringMany om_paid om_leftOf om_ringPaid om_paidAll om_mosts om_text om_signs om_at om_isWrong om_clauses om_letters om_one om_two om_three om_whys om_backs om_sorts om_sizes om_items) := by
  intro sz
  refine Met.ofW (cc := cX7_book) (maxL := 3) (ret := (some .int)) (by decide) rfl ?_
  intro pP eE s0 mM args below meth cC s₁ B hml hv
  obtain ⟨rfl, hsz, hP, hKX, hD0⟩ := hv
  have hx := B.exec
  have hb := B.bytes
  have hr := B.returns
  have hG := gw_hts (atoms_spec (ws := _) B.pre)
  have hown : s0.vm.findClass RX7 = some mM.cls := findClass_of_methodNamed B.named
  have hlocks := B.notSynchronized
  subst hsz
  have hD := hD0.self (sz := s0.heap.size)
  generalize hAe : va_A (wX7 cy om om_thrown om_s om_kept om_aside om_isKept om_reaches om_ringOf om_rungOf om_rings om_ringMany om_paid om_leftOf om_ringPaid om_paidAll om_mosts om_text om_signs om_at om_isWrong om_clauses om_letters om_one om_two om_three om_whys om_backs om_sorts om_sizes om_items) s0.heap.size = A at hD ⊢
  have hA : ∀ q : Nat, s0.heap.size ≤ q → A q := fun q h => by rw [← hAe]; exact Or.inr h
  have hS : va_S A s0.heap s0.heap [] := va_S.rf
  have hl := lv_entry ([.ref (om 0), .int c, .int v]) (n := 3) (Nat.le_of_ble_eq_true rfl)
  rw [lg_entry_eq]
  generalize (lg_sl ([.ref (om 0), .int c, .int v]) ++ List.replicate (3 - (lg_sl ([.ref (om 0), .int c, .int v])).length) Slot.unset).toArray = ls at hl ⊢
  have hl : lv_has ls 3 [(0, .ref (om 0)), (1, .int c), (2, .int v)] := hl
  refine lv_iload_n hx hb dX7_book_0 rfl (lv_at hl 1 rfl) ?_
  refine lv_iconst (v := (-1 : Int32)) hx hb dX7_book_1 (by decide) ?_
  refine lv_icmp_ne (tgt := 14) hx hb dX7_book_2 (by decide) (fun c1 => ?_) (fun c1 => ?_)
  · refine lv_aload_n hx hb dX7_book_14 rfl (lv_at hl 0 rfl) ?_
    refine lv_iload_n hx hb dX7_book_15 rfl (lv_at hl 1 rfl) ?_
    refine cRoV (q0 := 0) (ci := 7) mw8_2 mw8_3 mw8_4 mw1_5 mw8_5 rfl rfl hd_X7_isOne hx hb hml hown hG hKX (c_X7_isOne l D cy om om_thrown om_s om_kept om_aside om_isKept om_reaches om_ringOf om_rungOf om_rings om_ringMany om_paid om_leftOf om_ringPaid om_paidAll om_mosts om_text om_signs om_at om_isWrong om_clauses om_letters om_one om_two om_three om_whys om_backs om_sorts om_sizes om_items c n hn hs0) ⟨Nat.le_of_ble_eq_true rfl, Nat.le_of_ble_eq_true rfl⟩ ⟨Nat.zero_le _, Nat.zero_le _⟩ hP rfl rfl hl.1 rfl (Nat.le_of_ble_eq_true rfl) dX7_book_16 ?_
    refine lv_if_ne (tgt := 24) hx hb dX7_book_19 (by decide) (fun c2 => ?_) (fun c2 => ?_)
    · obtain ⟨j19, hj19, hlj19, rfl⟩ := isO_of (by omega) c2
      refine lv_iload_n hx hb dX7_book_24 rfl (lv_at hl 2 rfl) ?_
      refine lv_i2l (v := ((v).toInt64)) hx hb dX7_book_25 rfl ?_
      refine lv_lconst (v := (0 : Int64)) hx hb dX7_book_26 (by decide) ?_
      refine lv_ldc2 (v := (99 : Int64)) hx hb hown (hG _ mw7_1) dX7_book_27 ?_
      refine cRoS mw7_3 mw7_4 mw1_5 mw7_5 hd_X7_in hx hb hml hown hG hKX (c_X7_in l D cy ((v).toInt64) (0 : Int64) (99 : Int64)) ⟨Nat.le_of_ble_eq_true rfl, Nat.le_of_ble_eq_true rfl⟩ ⟨Nat.zero_le _, Nat.zero_le _⟩ (hP.sub [] rfl) rfl hl.1 rfl (Nat.le_of_ble_eq_true rfl) dX7_book_30 ?_
      refine lv_if_ne (tgt := 39) hx hb dX7_book_33 (by decide) (fun c3 => ?_) (fun c3 => ?_)
      · refine lv_aload_n hx hb dX7_book_39 rfl (lv_at hl 0 rfl) ?_
        refine gf_X7_15 hx hb hG hown hKX hP 0 rfl rfl dX7_book_40 ?_
        refine lv_iconst (v := (4 : Int32)) hx hb dX7_book_43 (by decide) ?_
        refine iald_v hx hb hKX hP 1 rfl rfl (by decide) (by decide) hs4 dX7_book_44 ?_
        refine lv_bipush (v := (8 : Int32)) hx hb dX7_book_45 (by decide) ?_
        refine lv_icmp_ne (tgt := 53) hx hb dX7_book_47 (by decide) (fun c4 => ?_) (fun c4 => ?_)
        · have hqlt : q < 8 := by have h9 : q ≠ 8 := fun q9 => c4 (by rw [q9]; rfl); omega
          refine lv_aload_n hx hb dX7_book_53 rfl (lv_at hl 0 rfl) ?_
          refine gf_X7_15 hx hb hG hown hKX hP 0 rfl rfl dX7_book_54 ?_
          refine lv_bipush (v := (61 : Int32)) hx hb dX7_book_57 (by decide) ?_
          refine lv_aload_n hx hb dX7_book_59 rfl (lv_at hl 0 rfl) ?_
          refine gf_X7_15 hx hb hG hown hKX hP 0 rfl rfl dX7_book_60 ?_
          refine lv_iconst (v := (4 : Int32)) hx hb dX7_book_63 (by decide) ?_
          refine iald_v hx hb hKX hP 1 rfl rfl (by decide) (by decide) hs4 dX7_book_64 ?_
          refine lv_iadd hx hb dX7_book_65 ?_
          refine topi_eq (y := nI (61 + q)) (aN rfl rfl) ?_
          refine lv_iload_n hx hb dX7_book_66 rfl (lv_at hl 1 rfl) ?_
          refine iast_n hx hb hKX hP hD hS 1 rfl rfl (by omega) (by decide) dX7_book_67 (fun H locs hP hD hS => ?_)
          have hP : va_P D vwCl (wX7 cy om om_thrown (upd om_s (61 + q) (nI j19)) om_kept om_aside om_isKept om_reaches om_ringOf om_rungOf om_rings om_ringMany om_paid om_leftOf om_ringPaid om_paidAll om_mosts om_text om_signs om_at om_isWrong om_clauses om_letters om_one om_two om_three om_whys om_backs om_sorts om_sizes om_items) H := hP
          have hD : va_D A (wX7 cy om om_thrown (upd om_s (61 + q) (nI j19)) om_kept om_aside om_isKept om_reaches om_ringOf om_rungOf om_rings om_ringMany om_paid om_leftOf om_ringPaid om_paidAll om_mosts om_text om_signs om_at om_isWrong om_clauses om_letters om_one om_two om_three om_whys om_backs om_sorts om_sizes om_items) := hD
          refine lv_aload_n hx hb dX7_book_68 rfl (lv_at hl 0 rfl) ?_
          refine gf_X7_15 hx hb hG hown hKX hP 0 rfl rfl dX7_book_69 ?_
          refine lv_bipush (v := (69 : Int32)) hx hb dX7_book_72 (by decide) ?_
          refine lv_aload_n hx hb dX7_book_74 rfl (lv_at hl 0 rfl) ?_
          refine gf_X7_15 hx hb hG hown hKX hP 0 rfl rfl dX7_book_75 ?_
          refine lv_iconst (v := (4 : Int32)) hx hb dX7_book_78 (by decide) ?_
          refine iald_v hx hb hKX hP 1 rfl rfl (by decide) (by decide) ((pk_un (j := 4) (by omega)).trans hs4) dX7_book_79 ?_
          refine lv_iadd hx hb dX7_book_80 ?_
          refine topi_eq (y := nI (69 + q)) (aN rfl rfl) ?_
          refine lv_iload_n hx hb dX7_book_81 rfl (lv_at hl 2 rfl) ?_
          refine iast_n hx hb hKX hP hD hS 1 rfl rfl (by omega) (by decide) dX7_book_82 (fun H locs hP hD hS => ?_)
          have hP : va_P D vwCl (wX7 cy om om_thrown (upd (upd om_s (61 + q) (nI j19)) (69 + q) v) om_kept om_aside om_isKept om_reaches om_ringOf om_rungOf om_rings om_ringMany om_paid om_leftOf om_ringPaid om_paidAll om_mosts om_text om_signs om_at om_isWrong om_clauses om_letters om_one om_two om_three om_whys om_backs om_sorts om_sizes om_items) H := hP
          have hD : va_D A (wX7 cy om om_thrown (upd (upd om_s (61 + q) (nI j19)) (69 + q) v) om_kept om_aside om_isKept om_reaches om_ringOf om_rungOf om_rings om_ringMany om_paid om_leftOf om_ringPaid om_paidAll om_mosts om_text om_signs om_at om_isWrong om_clauses om_letters om_one om_two om_three om_whys om_backs om_sorts om_sizes om_items) := hD
          refine lv_aload_n hx hb dX7_book_83 rfl (lv_at hl 0 rfl) ?_
          refine gf_X7_15 hx hb hG hown hKX hP 0 rfl rfl dX7_book_84 ?_
          refine lv_iconst (v := (4 : Int32)) hx hb dX7_book_87 (by decide) ?_
          refine lv_dup2_11 hx hb dX7_book_88 rfl rfl ?_
          refine iald_v hx hb hKX hP 1 rfl rfl (by decide) (by decide) ((pk_un (j := 4) (by omega)).trans ((pk_un (j := 4) (by omega)).trans hs4)) dX7_book_89 ?_
          refine lv_iconst (v := (1 : Int32)) hx hb dX7_book_90 (by decide) ?_
          refine lv_iadd hx hb dX7_book_91 ?_
          refine topi_eq (y := nI (q + 1)) (aN rfl rfl) ?_
          refine iast_n hx hb hKX hP hD hS 1 rfl rfl (by decide) (by decide) dX7_book_92 (fun H locs hP hD hS => ?_)
          have hP : va_P D vwCl (wX7 cy om om_thrown (upd (upd (upd om_s (61 + q) (nI j19)) (69 + q) v) 4 (nI (q + 1))) om_kept om_aside om_isKept om_reaches om_ringOf om_rungOf om_rings om_ringMany om_paid om_leftOf om_ringPaid om_paidAll om_mosts om_text om_signs om_at om_isWrong om_clauses om_letters om_one om_two om_three om_whys om_backs om_sorts om_sizes om_items) H := hP
          have hD : va_D A (wX7 cy om om_thrown (upd (upd (upd om_s (61 + q) (nI j19)) (69 + q) v) 4 (nI (q + 1))) om_kept om_aside om_isKept om_reaches om_ringOf om_rungOf om_rings om_ringMany om_paid om_leftOf om_ringPaid om_paidAll om_mosts om_text om_signs om_at om_isWrong om_clauses om_letters om_one om_two om_three om_whys om_backs om_sorts om_sizes om_items) := hD
          refine lv_aload_n hx hb dX7_book_93 rfl (lv_at hl 0 rfl) ?_
          refine gf_X7_15 hx hb hG hown hKX hP 0 rfl rfl dX7_book_94 ?_
          refine lv_iconst (v := (4 : Int32)) hx hb dX7_book_97 (by decide) ?_
          refine iald_v hx hb hKX hP 1 rfl rfl (by decide) (by decide) pk_us dX7_book_98 ?_
          exact W.iret (v := nI (q + 1)) hx hb hr (fun t ht hW => ⟨⟨nI (q + 1), upd (upd (upd om_s (61 + q) (nI j19)) (69 + q) v) 4 (nI (q + 1)), rfl, by unfold f_X7_book; (try simp only [hj19]); rw [if_neg c1, if_neg c2, if_neg c3, if_neg c4] <;> rfl, by rw [ht]; exact hP, hD⟩, hS.F ht⟩) hS.2.2 dX7_book_99
        · refine lv_bipush (v := (-4 : Int32)) hx hb dX7_book_50 (by decide) ?_
          exact W.iret (v := (-4 : Int32)) hx hb hr (fun t ht hW => ⟨⟨(-4 : Int32), om_s, rfl, by unfold f_X7_book; (try simp only [hj19]); rw [if_neg c1, if_neg c2, if_neg c3, if_pos c4] <;> rfl, by rw [ht]; exact hP, hD⟩, hS.F ht⟩) hS.2.2 dX7_book_52
      · refine lv_bipush (v := (-2 : Int32)) hx hb dX7_book_36 (by decide) ?_
        exact W.iret (v := (-2 : Int32)) hx hb hr (fun t ht hW => ⟨⟨(-2 : Int32), om_s, rfl, by unfold f_X7_book; (try simp only [hj19]); rw [if_neg c1, if_neg c2, if_pos c3] <;> rfl, by rw [ht]; exact hP, hD⟩, hS.F ht⟩) hS.2.2 dX7_book_38
    · refine lv_iconst (v := (-1 : Int32)) hx hb dX7_book_22 (by decide) ?_
      exact W.iret (v := (-1 : Int32)) hx hb hr (fun t ht hW => ⟨⟨(-1 : Int32), om_s, rfl, by unfold f_X7_book; rw [if_neg c1, if_pos c2] <;> rfl, by rw [ht]; exact hP, hD⟩, hS.F ht⟩) hS.2.2 dX7_book_23
  · refine lv_aload_n hx hb dX7_book_5 rfl (lv_at hl 0 rfl) ?_
    refine gf_X7_15 hx hb hG hown hKX hP 0 rfl rfl dX7_book_6 ?_
    refine lv_iconst (v := (4 : Int32)) hx hb dX7_book_9 (by decide) ?_
    refine lv_iconst (v := (0 : Int32)) hx hb dX7_book_10 (by decide) ?_
    refine iast_n hx hb hKX hP hD hS 1 rfl rfl (by decide) (by decide) dX7_book_11 (fun H locs hP hD hS => ?_)
    have hP : va_P D vwCl (wX7 cy om om_thrown (upd om_s 4 (0 : Int32)) om_kept om_aside om_isKept om_reaches om_ringOf om_rungOf om_rings om_ringMany om_paid om_leftOf om_ringPaid om_paidAll om_mosts om_text om_signs om_at om_isWrong om_clauses om_letters om_one om_two om_three om_whys om_backs om_sorts om_sizes om_items) H := hP
    have hD : va_D A (wX7 cy om om_thrown (upd om_s 4 (0 : Int32)) om_kept om_aside om_isKept om_reaches om_ringOf om_rungOf om_rings om_ringMany om_paid om_leftOf om_ringPaid om_paidAll om_mosts om_text om_signs om_at om_isWrong om_clauses om_letters om_one om_two om_three om_whys om_backs om_sorts om_sizes om_items) := hD
    refine lv_iconst (v := (0 : Int32)) hx hb dX7_book_12 (by decide) ?_
    exact W.iret (v := (0 : Int32)) hx hb hr (fun t ht hW => ⟨⟨(0 : Int32), upd om_s 4 (0 : Int32), rfl, by unfold f_X7_book; rw [if_pos c1] <;> rfl, by rw [ht]; exact hP, hD⟩, hS.F ht⟩) hS.2.2 dX7_book_13
def f_X7_plan (om_s : Nat → Int32) (what : Int32) (v : Int32) (n : Nat) (q : Nat) : Int32 × (Nat → Int32) :=
  if what = (-1 : Int32) then ((0 : Int32), upd om_s 3 (0 : Int32)) else (if (f_X7_in ((what).toInt64) (0 : Int64) (3 : Int64)) = (0 : Int32) then ((-1 : Int32), om_s) else (if (f_X7_in ((what).toInt64) (1 : Int64) (2 : Int64)) = (0 : Int32) then (if what = (0 : Int32) then (if (f_X7_in ((v).toInt64) (0 : Int64) (300 : Int64)) = (0 : Int32) then ((-2 : Int32), om_s) else (if nI q = (8 : Int32) then ((-4 : Int32), om_s) else (nI (q + 1), upd (upd (upd om_s (45 + q) what) (53 + q) v) 3 (nI (q + 1))))) else (if what = (3 : Int32) then (if (f_X7_in ((v).toInt64) (0 : Int64) (20 : Int64)) = (0 : Int32) then ((-2 : Int32), om_s) else (if nI q = (8 : Int32) then ((-4 : Int32), om_s) else (nI (q + 1), upd (upd (upd om_s (45 + q) what) (53 + q) v) 3 (nI (q + 1))))) else (if nI q = (8 : Int32) then ((-4 : Int32), om_s) else (nI (q + 1), upd (upd (upd om_s (45 + q) what) (53 + q) v) 3 (nI (q + 1)))))) else (if (f_X7_isOne v n) = (0 : Int32) then ((-1 : Int32), om_s) else (if what = (0 : Int32) then (if (f_X7_in ((nI v.toNatClampNeg).toInt64) (0 : Int64) (300 : Int64)) = (0 : Int32) then ((-2 : Int32), om_s) else (if nI q = (8 : Int32) then ((-4 : Int32), om_s) else (nI (q + 1), upd (upd (upd om_s (45 + q) what) (53 + q) (nI v.toNatClampNeg)) 3 (nI (q + 1))))) else (if what = (3 : Int32) then (if (f_X7_in ((nI v.toNatClampNeg).toInt64) (0 : Int64) (20 : Int64)) = (0 : Int32) then ((-2 : Int32), om_s) else (if nI q = (8 : Int32) then ((-4 : Int32), om_s) else (nI (q + 1), upd (upd (upd om_s (45 + q) what) (53 + q) (nI v.toNatClampNeg)) 3 (nI (q + 1))))) else (if nI q = (8 : Int32) then ((-4 : Int32), om_s) else (nI (q + 1), upd (upd (upd om_s (45 + q) what) (53 + q) (nI v.toNatClampNeg)) 3 (nI (q + 1)))))))))
set_option maxHeartbeats 4000000 in
set_option maxRecDepth 100000 in
theorem c_X7_plan (l : Launch) (D : va_G) (cy : Nat → ClassId) (om : Nat → Nat) (om_thrown : Int32) (om_s : Nat → Int32) (om_kept : Nat → Int32) (om_aside : Nat → Int32) (om_isKept : Int32) (om_reaches : Nat → Int32) (om_ringOf : Nat → Int32) (om_rungOf : Nat → Int32) (om_rings : Nat → Int32) (om_ringMany : Int32) (om_paid : Nat → Int32) (om_leftOf : Nat → Int32) (om_ringPaid : Nat → Int32) (om_paidAll : Int32) (om_mosts : Nat → Int32) (om_text : Nat → Int32) (om_signs : Int32) (om_at : Int32) (om_isWrong : Int32) (om_clauses : Int32) (om_letters : Nat → Int32) (om_one : Nat → Int32) (om_two : Nat → Int32) (om_three : Nat → Int32) (om_whys : Nat → Int32) (om_backs : Nat → Int32) (om_sorts : Nat → Int32) (om_sizes : Nat → Int32) (om_items : Nat → Int64) (what : Int32) (v : Int32) (n : Nat) (q : Nat) (hn : n ≤ 6) (hs0 : om_s 0 = nI n) (hs3 : om_s 3 = nI q) (hq : q ≤ 8) : RwI (S := (Nat → Int32)) l D cy yX7_plan (.code yX7_plan cX7_plan 3 (some .int)) 2 (wX7 cy om om_thrown om_s om_kept om_aside om_isKept om_reaches om_ringOf om_rungOf om_rings om_ringMany om_paid om_leftOf om_ringPaid om_paidAll om_mosts om_text om_signs om_at om_isWrong om_clauses om_letters om_one om_two om_three om_whys om_backs om_sorts om_sizes om_items) [.ref (om 0), .int what, .int v] (fun rr u => (rr, u) = f_X7_plan om_s what v n q) (fun u => wX7 cy om om_thrown u om_kept om_aside om_isKept om_reaches om_ringOf om_rungOf om_rings om_ringMany om_paid om_leftOf om_ringPaid om_paidAll om_mosts om_text om_signs om_at om_isWrong om_clauses om_letters om_one om_two om_three om_whys om_backs om_sorts om_sizes om_items) := by
  intro sz
  refine Met.ofW (cc := cX7_plan) (maxL := 3) (ret := (some .int)) (by decide) rfl ?_
  intro pP eE s0 mM args below meth cC s₁ B hml hv
  obtain ⟨rfl, hsz, hP, hKX, hD0⟩ := hv
  have hx := B.exec
  have hb := B.bytes
  have hr := B.returns
  have hG := gw_hts (atoms_spec (ws := _) B.pre)
  have hown : s0.vm.findClass RX7 = some mM.cls := findClass_of_methodNamed B.named
  have hlocks := B.notSynchronized
  subst hsz
  have hD := hD0.self (sz := s0.heap.size)
  generalize hAe : va_A (wX7 cy om om_thrown om_s om_kept om_aside om_isKept om_reaches om_ringOf om_rungOf om_rings om_ringMany om_paid om_leftOf om_ringPaid om_paidAll om_mosts om_text om_signs om_at om_isWrong om_clauses om_letters om_one om_two om_three om_whys om_backs om_sorts om_sizes om_items) s0.heap.size = A at hD ⊢
  have hA : ∀ q : Nat, s0.heap.size ≤ q → A q := fun q h => by rw [← hAe]; exact Or.inr h
  have hS : va_S A s0.heap s0.heap [] := va_S.rf
  have hl := lv_entry ([.ref (om 0), .int what, .int v]) (n := 3) (Nat.le_of_ble_eq_true rfl)
  rw [lg_entry_eq]
  generalize (lg_sl ([.ref (om 0), .int what, .int v]) ++ List.replicate (3 - (lg_sl ([.ref (om 0), .int what, .int v])).length) Slot.unset).toArray = ls at hl ⊢
  have hl : lv_has ls 3 [(0, .ref (om 0)), (1, .int what), (2, .int v)] := hl
  refine lv_iload_n hx hb dX7_plan_0 rfl (lv_at hl 1 rfl) ?_
  refine lv_iconst (v := (-1 : Int32)) hx hb dX7_plan_1 (by decide) ?_
  refine lv_icmp_ne (tgt := 14) hx hb dX7_plan_2 (by decide) (fun c1 => ?_) (fun c1 => ?_)
  · refine lv_iload_n hx hb dX7_plan_14 rfl (lv_at hl 1 rfl) ?_
    refine lv_i2l (v := ((what).toInt64)) hx hb dX7_plan_15 rfl ?_
    refine lv_lconst (v := (0 : Int64)) hx hb dX7_plan_16 (by decide) ?_
    refine lv_ldc2 (v := (3 : Int64)) hx hb hown (hG _ mw7_0) dX7_plan_17 ?_
    refine cRoS mw7_3 mw7_4 mw1_5 mw7_5 hd_X7_in hx hb hml hown hG hKX (c_X7_in l D cy ((what).toInt64) (0 : Int64) (3 : Int64)) ⟨Nat.le_of_ble_eq_true rfl, Nat.le_of_ble_eq_true rfl⟩ ⟨Nat.zero_le _, Nat.zero_le _⟩ (hP.sub [] rfl) rfl hl.1 rfl (Nat.le_of_ble_eq_true rfl) dX7_plan_20 ?_
    refine lv_if_eq (tgt := 46) hx hb dX7_plan_23 (by decide) (fun c2 => ?_) (fun c2 => ?_)
    · refine lv_iconst (v := (-1 : Int32)) hx hb dX7_plan_46 (by decide) ?_
      exact W.iret (v := (-1 : Int32)) hx hb hr (fun t ht hW => ⟨⟨(-1 : Int32), om_s, rfl, by unfold f_X7_plan; rw [if_neg c1, if_pos c2] <;> rfl, by rw [ht]; exact hP, hD⟩, hS.F ht⟩) hS.2.2 dX7_plan_47
    · refine lv_iload_n hx hb dX7_plan_26 rfl (lv_at hl 1 rfl) ?_
      refine lv_i2l (v := ((what).toInt64)) hx hb dX7_plan_27 rfl ?_
      refine lv_lconst (v := (1 : Int64)) hx hb dX7_plan_28 (by decide) ?_
      refine lv_ldc2 (v := (2 : Int64)) hx hb hown (hG _ mw29_8) dX7_plan_29 ?_
      refine cRoS mw7_3 mw7_4 mw1_5 mw7_5 hd_X7_in hx hb hml hown hG hKX (c_X7_in l D cy ((what).toInt64) (1 : Int64) (2 : Int64)) ⟨Nat.le_of_ble_eq_true rfl, Nat.le_of_ble_eq_true rfl⟩ ⟨Nat.zero_le _, Nat.zero_le _⟩ (hP.sub [] rfl) rfl hl.1 rfl (Nat.le_of_ble_eq_true rfl) dX7_plan_32 ?_
      refine lv_if_eq (tgt := 48) hx hb dX7_plan_35 (by decide) (fun c3 => ?_) (fun c3 => ?_)
      · refine lv_iload_n hx hb dX7_plan_48 rfl (lv_at hl 1 rfl) ?_
        refine lv_if_ne (tgt := 64) hx hb dX7_plan_49 (by decide) (fun c4 => ?_) (fun c4 => ?_)
        · refine lv_iload_n hx hb dX7_plan_64 rfl (lv_at hl 1 rfl) ?_
          refine lv_iconst (v := (3 : Int32)) hx hb dX7_plan_65 (by decide) ?_
          refine lv_icmp_ne (tgt := 84) hx hb dX7_plan_66 (by decide) (fun c5 => ?_) (fun c5 => ?_)
          · refine lv_aload_n hx hb dX7_plan_84 rfl (lv_at hl 0 rfl) ?_
            refine gf_X7_15 hx hb hG hown hKX hP 0 rfl rfl dX7_plan_85 ?_
            refine lv_iconst (v := (3 : Int32)) hx hb dX7_plan_88 (by decide) ?_
            refine iald_v hx hb hKX hP 1 rfl rfl (by decide) (by decide) hs3 dX7_plan_89 ?_
            refine lv_bipush (v := (8 : Int32)) hx hb dX7_plan_90 (by decide) ?_
            refine lv_icmp_ne (tgt := 98) hx hb dX7_plan_92 (by decide) (fun c6 => ?_) (fun c6 => ?_)
            · have hqlt : q < 8 := by have h9 : q ≠ 8 := fun q9 => c6 (by rw [q9]; rfl); omega
              refine lv_aload_n hx hb dX7_plan_98 rfl (lv_at hl 0 rfl) ?_
              refine gf_X7_15 hx hb hG hown hKX hP 0 rfl rfl dX7_plan_99 ?_
              refine lv_bipush (v := (45 : Int32)) hx hb dX7_plan_102 (by decide) ?_
              refine lv_aload_n hx hb dX7_plan_104 rfl (lv_at hl 0 rfl) ?_
              refine gf_X7_15 hx hb hG hown hKX hP 0 rfl rfl dX7_plan_105 ?_
              refine lv_iconst (v := (3 : Int32)) hx hb dX7_plan_108 (by decide) ?_
              refine iald_v hx hb hKX hP 1 rfl rfl (by decide) (by decide) hs3 dX7_plan_109 ?_
              refine lv_iadd hx hb dX7_plan_110 ?_
              refine topi_eq (y := nI (45 + q)) (aN rfl rfl) ?_
              refine lv_iload_n hx hb dX7_plan_111 rfl (lv_at hl 1 rfl) ?_
              refine iast_n hx hb hKX hP hD hS 1 rfl rfl (by omega) (by decide) dX7_plan_112 (fun H locs hP hD hS => ?_)
              have hP : va_P D vwCl (wX7 cy om om_thrown (upd om_s (45 + q) what) om_kept om_aside om_isKept om_reaches om_ringOf om_rungOf om_rings om_ringMany om_paid om_leftOf om_ringPaid om_paidAll om_mosts om_text om_signs om_at om_isWrong om_clauses om_letters om_one om_two om_three om_whys om_backs om_sorts om_sizes om_items) H := hP
              have hD : va_D A (wX7 cy om om_thrown (upd om_s (45 + q) what) om_kept om_aside om_isKept om_reaches om_ringOf om_rungOf om_rings om_ringMany om_paid om_leftOf om_ringPaid om_paidAll om_mosts om_text om_signs om_at om_isWrong om_clauses om_letters om_one om_two om_three om_whys om_backs om_sorts om_sizes om_items) := hD
              refine lv_aload_n hx hb dX7_plan_113 rfl (lv_at hl 0 rfl) ?_
              refine gf_X7_15 hx hb hG hown hKX hP 0 rfl rfl dX7_plan_114 ?_
              refine lv_bipush (v := (53 : Int32)) hx hb dX7_plan_117 (by decide) ?_
              refine lv_aload_n hx hb dX7_plan_119 rfl (lv_at hl 0 rfl) ?_
              refine gf_X7_15 hx hb hG hown hKX hP 0 rfl rfl dX7_plan_120 ?_
              refine lv_iconst (v := (3 : Int32)) hx hb dX7_plan_123 (by decide) ?_
              refine iald_v hx hb hKX hP 1 rfl rfl (by decide) (by decide) ((pk_un (j := 3) (by omega)).trans hs3) dX7_plan_124 ?_
              refine lv_iadd hx hb dX7_plan_125 ?_
              refine topi_eq (y := nI (53 + q)) (aN rfl rfl) ?_
              refine lv_iload_n hx hb dX7_plan_126 rfl (lv_at hl 2 rfl) ?_
              refine iast_n hx hb hKX hP hD hS 1 rfl rfl (by omega) (by decide) dX7_plan_127 (fun H locs hP hD hS => ?_)
              have hP : va_P D vwCl (wX7 cy om om_thrown (upd (upd om_s (45 + q) what) (53 + q) v) om_kept om_aside om_isKept om_reaches om_ringOf om_rungOf om_rings om_ringMany om_paid om_leftOf om_ringPaid om_paidAll om_mosts om_text om_signs om_at om_isWrong om_clauses om_letters om_one om_two om_three om_whys om_backs om_sorts om_sizes om_items) H := hP
              have hD : va_D A (wX7 cy om om_thrown (upd (upd om_s (45 + q) what) (53 + q) v) om_kept om_aside om_isKept om_reaches om_ringOf om_rungOf om_rings om_ringMany om_paid om_leftOf om_ringPaid om_paidAll om_mosts om_text om_signs om_at om_isWrong om_clauses om_letters om_one om_two om_three om_whys om_backs om_sorts om_sizes om_items) := hD
              refine lv_aload_n hx hb dX7_plan_128 rfl (lv_at hl 0 rfl) ?_
              refine gf_X7_15 hx hb hG hown hKX hP 0 rfl rfl dX7_plan_129 ?_
              refine lv_iconst (v := (3 : Int32)) hx hb dX7_plan_132 (by decide) ?_
              refine lv_dup2_11 hx hb dX7_plan_133 rfl rfl ?_
              refine iald_v hx hb hKX hP 1 rfl rfl (by decide) (by decide) ((pk_un (j := 3) (by omega)).trans ((pk_un (j := 3) (by omega)).trans hs3)) dX7_plan_134 ?_
              refine lv_iconst (v := (1 : Int32)) hx hb dX7_plan_135 (by decide) ?_
              refine lv_iadd hx hb dX7_plan_136 ?_
              refine topi_eq (y := nI (q + 1)) (aN rfl rfl) ?_
              refine iast_n hx hb hKX hP hD hS 1 rfl rfl (by decide) (by decide) dX7_plan_137 (fun H locs hP hD hS => ?_)
              have hP : va_P D vwCl (wX7 cy om om_thrown (upd (upd (upd om_s (45 + q) what) (53 + q) v) 3 (nI (q + 1))) om_kept om_aside om_isKept om_reaches om_ringOf om_rungOf om_rings om_ringMany om_paid om_leftOf om_ringPaid om_paidAll om_mosts om_text om_signs om_at om_isWrong om_clauses om_letters om_one om_two om_three om_whys om_backs om_sorts om_sizes om_items) H := hP
              have hD : va_D A (wX7 cy om om_thrown (upd (upd (upd om_s (45 + q) what) (53 + q) v) 3 (nI (q + 1))) om_kept om_aside om_isKept om_reaches om_ringOf om_rungOf om_rings om_ringMany om_paid om_leftOf om_ringPaid om_paidAll om_mosts om_text om_signs om_at om_isWrong om_clauses om_letters om_one om_two om_three om_whys om_backs om_sorts om_sizes om_items) := hD
              refine lv_aload_n hx hb dX7_plan_138 rfl (lv_at hl 0 rfl) ?_
              refine gf_X7_15 hx hb hG hown hKX hP 0 rfl rfl dX7_plan_139 ?_
              refine lv_iconst (v := (3 : Int32)) hx hb dX7_plan_142 (by decide) ?_
              refine iald_v hx hb hKX hP 1 rfl rfl (by decide) (by decide) pk_us dX7_plan_143 ?_
              exact W.iret (v := nI (q + 1)) hx hb hr (fun t ht hW => ⟨⟨nI (q + 1), upd (upd (upd om_s (45 + q) what) (53 + q) v) 3 (nI (q + 1)), rfl, by unfold f_X7_plan; rw [if_neg c1, if_neg c2, if_pos c3, if_neg c4, if_neg c5, if_neg c6] <;> rfl, by rw [ht]; exact hP, hD⟩, hS.F ht⟩) hS.2.2 dX7_plan_144
            · refine lv_bipush (v := (-4 : Int32)) hx hb dX7_plan_95 (by decide) ?_
              exact W.iret (v := (-4 : Int32)) hx hb hr (fun t ht hW => ⟨⟨(-4 : Int32), om_s, rfl, by unfold f_X7_plan; rw [if_neg c1, if_neg c2, if_pos c3, if_neg c4, if_neg c5, if_pos c6] <;> rfl, by rw [ht]; exact hP, hD⟩, hS.F ht⟩) hS.2.2 dX7_plan_97
          · refine lv_iload_n hx hb dX7_plan_69 rfl (lv_at hl 2 rfl) ?_
            refine lv_i2l (v := ((v).toInt64)) hx hb dX7_plan_70 rfl ?_
            refine lv_lconst (v := (0 : Int64)) hx hb dX7_plan_71 (by decide) ?_
            refine lv_ldc2 (v := (20 : Int64)) hx hb hown (hG _ mw7_2) dX7_plan_72 ?_
            refine cRoS mw7_3 mw7_4 mw1_5 mw7_5 hd_X7_in hx hb hml hown hG hKX (c_X7_in l D cy ((v).toInt64) (0 : Int64) (20 : Int64)) ⟨Nat.le_of_ble_eq_true rfl, Nat.le_of_ble_eq_true rfl⟩ ⟨Nat.zero_le _, Nat.zero_le _⟩ (hP.sub [] rfl) rfl hl.1 rfl (Nat.le_of_ble_eq_true rfl) dX7_plan_75 ?_
            refine lv_if_ne (tgt := 84) hx hb dX7_plan_78 (by decide) (fun c7 => ?_) (fun c7 => ?_)
            · refine lv_aload_n hx hb dX7_plan_84 rfl (lv_at hl 0 rfl) ?_
              refine gf_X7_15 hx hb hG hown hKX hP 0 rfl rfl dX7_plan_85 ?_
              refine lv_iconst (v := (3 : Int32)) hx hb dX7_plan_88 (by decide) ?_
              refine iald_v hx hb hKX hP 1 rfl rfl (by decide) (by decide) hs3 dX7_plan_89 ?_
              refine lv_bipush (v := (8 : Int32)) hx hb dX7_plan_90 (by decide) ?_
              refine lv_icmp_ne (tgt := 98) hx hb dX7_plan_92 (by decide) (fun c8 => ?_) (fun c8 => ?_)
              · have hqlt : q < 8 := by have h9 : q ≠ 8 := fun q9 => c8 (by rw [q9]; rfl); omega
                refine lv_aload_n hx hb dX7_plan_98 rfl (lv_at hl 0 rfl) ?_
                refine gf_X7_15 hx hb hG hown hKX hP 0 rfl rfl dX7_plan_99 ?_
                refine lv_bipush (v := (45 : Int32)) hx hb dX7_plan_102 (by decide) ?_
                refine lv_aload_n hx hb dX7_plan_104 rfl (lv_at hl 0 rfl) ?_
                refine gf_X7_15 hx hb hG hown hKX hP 0 rfl rfl dX7_plan_105 ?_
                refine lv_iconst (v := (3 : Int32)) hx hb dX7_plan_108 (by decide) ?_
                refine iald_v hx hb hKX hP 1 rfl rfl (by decide) (by decide) hs3 dX7_plan_109 ?_
                refine lv_iadd hx hb dX7_plan_110 ?_
                refine topi_eq (y := nI (45 + q)) (aN rfl rfl) ?_
                refine lv_iload_n hx hb dX7_plan_111 rfl (lv_at hl 1 rfl) ?_
                refine iast_n hx hb hKX hP hD hS 1 rfl rfl (by omega) (by decide) dX7_plan_112 (fun H locs hP hD hS => ?_)
                have hP : va_P D vwCl (wX7 cy om om_thrown (upd om_s (45 + q) what) om_kept om_aside om_isKept om_reaches om_ringOf om_rungOf om_rings om_ringMany om_paid om_leftOf om_ringPaid om_paidAll om_mosts om_text om_signs om_at om_isWrong om_clauses om_letters om_one om_two om_three om_whys om_backs om_sorts om_sizes om_items) H := hP
                have hD : va_D A (wX7 cy om om_thrown (upd om_s (45 + q) what) om_kept om_aside om_isKept om_reaches om_ringOf om_rungOf om_rings om_ringMany om_paid om_leftOf om_ringPaid om_paidAll om_mosts om_text om_signs om_at om_isWrong om_clauses om_letters om_one om_two om_three om_whys om_backs om_sorts om_sizes om_items) := hD
                refine lv_aload_n hx hb dX7_plan_113 rfl (lv_at hl 0 rfl) ?_
                refine gf_X7_15 hx hb hG hown hKX hP 0 rfl rfl dX7_plan_114 ?_
                refine lv_bipush (v := (53 : Int32)) hx hb dX7_plan_117 (by decide) ?_
                refine lv_aload_n hx hb dX7_plan_119 rfl (lv_at hl 0 rfl) ?_
                refine gf_X7_15 hx hb hG hown hKX hP 0 rfl rfl dX7_plan_120 ?_
                refine lv_iconst (v := (3 : Int32)) hx hb dX7_plan_123 (by decide) ?_
                refine iald_v hx hb hKX hP 1 rfl rfl (by decide) (by decide) ((pk_un (j := 3) (by omega)).trans hs3) dX7_plan_124 ?_
                refine lv_iadd hx hb dX7_plan_125 ?_
                refine topi_eq (y := nI (53 + q)) (aN rfl rfl) ?_
                refine lv_iload_n hx hb dX7_plan_126 rfl (lv_at hl 2 rfl) ?_
                refine iast_n hx hb hKX hP hD hS 1 rfl rfl (by omega) (by decide) dX7_plan_127 (fun H locs hP hD hS => ?_)
                have hP : va_P D vwCl (wX7 cy om om_thrown (upd (upd om_s (45 + q) what) (53 + q) v) om_kept om_aside om_isKept om_reaches om_ringOf om_rungOf om_rings om_ringMany om_paid om_leftOf om_ringPaid om_paidAll om_mosts om_text om_signs om_at om_isWrong om_clauses om_letters om_one om_two om_three om_whys om_backs om_sorts om_sizes om_items) H := hP
                have hD : va_D A (wX7 cy om om_thrown (upd (upd om_s (45 + q) what) (53 + q) v) om_kept om_aside om_isKept om_reaches om_ringOf om_rungOf om_rings om_ringMany om_paid om_leftOf om_ringPaid om_paidAll om_mosts om_text om_signs om_at om_isWrong om_clauses om_letters om_one om_two om_three om_whys om_backs om_sorts om_sizes om_items) := hD
                refine lv_aload_n hx hb dX7_plan_128 rfl (lv_at hl 0 rfl) ?_
                refine gf_X7_15 hx hb hG hown hKX hP 0 rfl rfl dX7_plan_129 ?_
                refine lv_iconst (v := (3 : Int32)) hx hb dX7_plan_132 (by decide) ?_
                refine lv_dup2_11 hx hb dX7_plan_133 rfl rfl ?_
                refine iald_v hx hb hKX hP 1 rfl rfl (by decide) (by decide) ((pk_un (j := 3) (by omega)).trans ((pk_un (j := 3) (by omega)).trans hs3)) dX7_plan_134 ?_
                refine lv_iconst (v := (1 : Int32)) hx hb dX7_plan_135 (by decide) ?_
                refine lv_iadd hx hb dX7_plan_136 ?_
                refine topi_eq (y := nI (q + 1)) (aN rfl rfl) ?_
                refine iast_n hx hb hKX hP hD hS 1 rfl rfl (by decide) (by decide) dX7_plan_137 (fun H locs hP hD hS => ?_)
                have hP : va_P D vwCl (wX7 cy om om_thrown (upd (upd (upd om_s (45 + q) what) (53 + q) v) 3 (nI (q + 1))) om_kept om_aside om_isKept om_reaches om_ringOf om_rungOf om_rings om_ringMany om_paid om_leftOf om_ringPaid om_paidAll om_mosts om_text om_signs om_at om_isWrong om_clauses om_letters om_one om_two om_three om_whys om_backs om_sorts om_sizes om_items) H := hP
                have hD : va_D A (wX7 cy om om_thrown (upd (upd (upd om_s (45 + q) what) (53 + q) v) 3 (nI (q + 1))) om_kept om_aside om_isKept om_reaches om_ringOf om_rungOf om_rings om_ringMany om_paid om_leftOf om_ringPaid om_paidAll om_mosts om_text om_signs om_at om_isWrong om_clauses om_letters om_one om_two om_three om_whys om_backs om_sorts om_sizes om_items) := hD
                refine lv_aload_n hx hb dX7_plan_138 rfl (lv_at hl 0 rfl) ?_
                refine gf_X7_15 hx hb hG hown hKX hP 0 rfl rfl dX7_plan_139 ?_
                refine lv_iconst (v := (3 : Int32)) hx hb dX7_plan_142 (by decide) ?_
                refine iald_v hx hb hKX hP 1 rfl rfl (by decide) (by decide) pk_us dX7_plan_143 ?_
                exact W.iret (v := nI (q + 1)) hx hb hr (fun t ht hW => ⟨⟨nI (q + 1), upd (upd (upd om_s (45 + q) what) (53 + q) v) 3 (nI (q + 1)), rfl, by unfold f_X7_plan; rw [if_neg c1, if_neg c2, if_pos c3, if_neg c4, if_pos c5, if_neg c7, if_neg c8] <;> rfl, by rw [ht]; exact hP, hD⟩, hS.F ht⟩) hS.2.2 dX7_plan_144
              · refine lv_bipush (v := (-4 : Int32)) hx hb dX7_plan_95 (by decide) ?_
                exact W.iret (v := (-4 : Int32)) hx hb hr (fun t ht hW => ⟨⟨(-4 : Int32), om_s, rfl, by unfold f_X7_plan; rw [if_neg c1, if_neg c2, if_pos c3, if_neg c4, if_pos c5, if_neg c7, if_pos c8] <;> rfl, by rw [ht]; exact hP, hD⟩, hS.F ht⟩) hS.2.2 dX7_plan_97
            · refine lv_bipush (v := (-2 : Int32)) hx hb dX7_plan_81 (by decide) ?_
              exact W.iret (v := (-2 : Int32)) hx hb hr (fun t ht hW => ⟨⟨(-2 : Int32), om_s, rfl, by unfold f_X7_plan; rw [if_neg c1, if_neg c2, if_pos c3, if_neg c4, if_pos c5, if_pos c7] <;> rfl, by rw [ht]; exact hP, hD⟩, hS.F ht⟩) hS.2.2 dX7_plan_83
        · refine lv_iload_n hx hb dX7_plan_52 rfl (lv_at hl 2 rfl) ?_
          refine lv_i2l (v := ((v).toInt64)) hx hb dX7_plan_53 rfl ?_
          refine lv_lconst (v := (0 : Int64)) hx hb dX7_plan_54 (by decide) ?_
          refine lv_ldc2 (v := (300 : Int64)) hx hb hown (hG _ mw9_13) dX7_plan_55 ?_
          refine cRoS mw7_3 mw7_4 mw1_5 mw7_5 hd_X7_in hx hb hml hown hG hKX (c_X7_in l D cy ((v).toInt64) (0 : Int64) (300 : Int64)) ⟨Nat.le_of_ble_eq_true rfl, Nat.le_of_ble_eq_true rfl⟩ ⟨Nat.zero_le _, Nat.zero_le _⟩ (hP.sub [] rfl) rfl hl.1 rfl (Nat.le_of_ble_eq_true rfl) dX7_plan_58 ?_
          refine lv_if_eq (tgt := 81) hx hb dX7_plan_61 (by decide) (fun c9 => ?_) (fun c9 => ?_)
          · refine lv_bipush (v := (-2 : Int32)) hx hb dX7_plan_81 (by decide) ?_
            exact W.iret (v := (-2 : Int32)) hx hb hr (fun t ht hW => ⟨⟨(-2 : Int32), om_s, rfl, by unfold f_X7_plan; rw [if_neg c1, if_neg c2, if_pos c3, if_pos c4, if_pos c9] <;> rfl, by rw [ht]; exact hP, hD⟩, hS.F ht⟩) hS.2.2 dX7_plan_83
          · refine lv_iload_n hx hb dX7_plan_64 rfl (lv_at hl 1 rfl) ?_
            refine lv_iconst (v := (3 : Int32)) hx hb dX7_plan_65 (by decide) ?_
            refine lv_icmp_ne (tgt := 84) hx hb dX7_plan_66 (by decide) (fun _ => ?_) (fun c10 => absurd c10 (fun qq_ => absurd (c4.symm.trans qq_) (by decide)))
            refine lv_aload_n hx hb dX7_plan_84 rfl (lv_at hl 0 rfl) ?_
            refine gf_X7_15 hx hb hG hown hKX hP 0 rfl rfl dX7_plan_85 ?_
            refine lv_iconst (v := (3 : Int32)) hx hb dX7_plan_88 (by decide) ?_
            refine iald_v hx hb hKX hP 1 rfl rfl (by decide) (by decide) hs3 dX7_plan_89 ?_
            refine lv_bipush (v := (8 : Int32)) hx hb dX7_plan_90 (by decide) ?_
            refine lv_icmp_ne (tgt := 98) hx hb dX7_plan_92 (by decide) (fun c11 => ?_) (fun c11 => ?_)
            · have hqlt : q < 8 := by have h9 : q ≠ 8 := fun q9 => c11 (by rw [q9]; rfl); omega
              refine lv_aload_n hx hb dX7_plan_98 rfl (lv_at hl 0 rfl) ?_
              refine gf_X7_15 hx hb hG hown hKX hP 0 rfl rfl dX7_plan_99 ?_
              refine lv_bipush (v := (45 : Int32)) hx hb dX7_plan_102 (by decide) ?_
              refine lv_aload_n hx hb dX7_plan_104 rfl (lv_at hl 0 rfl) ?_
              refine gf_X7_15 hx hb hG hown hKX hP 0 rfl rfl dX7_plan_105 ?_
              refine lv_iconst (v := (3 : Int32)) hx hb dX7_plan_108 (by decide) ?_
              refine iald_v hx hb hKX hP 1 rfl rfl (by decide) (by decide) hs3 dX7_plan_109 ?_
              refine lv_iadd hx hb dX7_plan_110 ?_
              refine topi_eq (y := nI (45 + q)) (aN rfl rfl) ?_
              refine lv_iload_n hx hb dX7_plan_111 rfl (lv_at hl 1 rfl) ?_
              refine iast_n hx hb hKX hP hD hS 1 rfl rfl (by omega) (by decide) dX7_plan_112 (fun H locs hP hD hS => ?_)
              have hP : va_P D vwCl (wX7 cy om om_thrown (upd om_s (45 + q) what) om_kept om_aside om_isKept om_reaches om_ringOf om_rungOf om_rings om_ringMany om_paid om_leftOf om_ringPaid om_paidAll om_mosts om_text om_signs om_at om_isWrong om_clauses om_letters om_one om_two om_three om_whys om_backs om_sorts om_sizes om_items) H := hP
              have hD : va_D A (wX7 cy om om_thrown (upd om_s (45 + q) what) om_kept om_aside om_isKept om_reaches om_ringOf om_rungOf om_rings om_ringMany om_paid om_leftOf om_ringPaid om_paidAll om_mosts om_text om_signs om_at om_isWrong om_clauses om_letters om_one om_two om_three om_whys om_backs om_sorts om_sizes om_items) := hD
              refine lv_aload_n hx hb dX7_plan_113 rfl (lv_at hl 0 rfl) ?_
              refine gf_X7_15 hx hb hG hown hKX hP 0 rfl rfl dX7_plan_114 ?_
              refine lv_bipush (v := (53 : Int32)) hx hb dX7_plan_117 (by decide) ?_
              refine lv_aload_n hx hb dX7_plan_119 rfl (lv_at hl 0 rfl) ?_
              refine gf_X7_15 hx hb hG hown hKX hP 0 rfl rfl dX7_plan_120 ?_
              refine lv_iconst (v := (3 : Int32)) hx hb dX7_plan_123 (by decide) ?_
              refine iald_v hx hb hKX hP 1 rfl rfl (by decide) (by decide) ((pk_un (j := 3) (by omega)).trans hs3) dX7_plan_124 ?_
              refine lv_iadd hx hb dX7_plan_125 ?_
              refine topi_eq (y := nI (53 + q)) (aN rfl rfl) ?_
              refine lv_iload_n hx hb dX7_plan_126 rfl (lv_at hl 2 rfl) ?_
              refine iast_n hx hb hKX hP hD hS 1 rfl rfl (by omega) (by decide) dX7_plan_127 (fun H locs hP hD hS => ?_)
              have hP : va_P D vwCl (wX7 cy om om_thrown (upd (upd om_s (45 + q) what) (53 + q) v) om_kept om_aside om_isKept om_reaches om_ringOf om_rungOf om_rings om_ringMany om_paid om_leftOf om_ringPaid om_paidAll om_mosts om_text om_signs om_at om_isWrong om_clauses om_letters om_one om_two om_three om_whys om_backs om_sorts om_sizes om_items) H := hP
              have hD : va_D A (wX7 cy om om_thrown (upd (upd om_s (45 + q) what) (53 + q) v) om_kept om_aside om_isKept om_reaches om_ringOf om_rungOf om_rings om_ringMany om_paid om_leftOf om_ringPaid om_paidAll om_mosts om_text om_signs om_at om_isWrong om_clauses om_letters om_one om_two om_three om_whys om_backs om_sorts om_sizes om_items) := hD
              refine lv_aload_n hx hb dX7_plan_128 rfl (lv_at hl 0 rfl) ?_
              refine gf_X7_15 hx hb hG hown hKX hP 0 rfl rfl dX7_plan_129 ?_
              refine lv_iconst (v := (3 : Int32)) hx hb dX7_plan_132 (by decide) ?_
              refine lv_dup2_11 hx hb dX7_plan_133 rfl rfl ?_
              refine iald_v hx hb hKX hP 1 rfl rfl (by decide) (by decide) ((pk_un (j := 3) (by omega)).trans ((pk_un (j := 3) (by omega)).trans hs3)) dX7_plan_134 ?_
              refine lv_iconst (v := (1 : Int32)) hx hb dX7_plan_135 (by decide) ?_
              refine lv_iadd hx hb dX7_plan_136 ?_
              refine topi_eq (y := nI (q + 1)) (aN rfl rfl) ?_
              refine iast_n hx hb hKX hP hD hS 1 rfl rfl (by decide) (by decide) dX7_plan_137 (fun H locs hP hD hS => ?_)
              have hP : va_P D vwCl (wX7 cy om om_thrown (upd (upd (upd om_s (45 + q) what) (53 + q) v) 3 (nI (q + 1))) om_kept om_aside om_isKept om_reaches om_ringOf om_rungOf om_rings om_ringMany om_paid om_leftOf om_ringPaid om_paidAll om_mosts om_text om_signs om_at om_isWrong om_clauses om_letters om_one om_two om_three om_whys om_backs om_sorts om_sizes om_items) H := hP
              have hD : va_D A (wX7 cy om om_thrown (upd (upd (upd om_s (45 + q) what) (53 + q) v) 3 (nI (q + 1))) om_kept om_aside om_isKept om_reaches om_ringOf om_rungOf om_rings om_ringMany om_paid om_leftOf om_ringPaid om_paidAll om_mosts om_text om_signs om_at om_isWrong om_clauses om_letters om_one om_two om_three om_whys om_backs om_sorts om_sizes om_items) := hD
              refine lv_aload_n hx hb dX7_plan_138 rfl (lv_at hl 0 rfl) ?_
              refine gf_X7_15 hx hb hG hown hKX hP 0 rfl rfl dX7_plan_139 ?_
              refine lv_iconst (v := (3 : Int32)) hx hb dX7_plan_142 (by decide) ?_
              refine iald_v hx hb hKX hP 1 rfl rfl (by decide) (by decide) pk_us dX7_plan_143 ?_
              exact W.iret (v := nI (q + 1)) hx hb hr (fun t ht hW => ⟨⟨nI (q + 1), upd (upd (upd om_s (45 + q) what) (53 + q) v) 3 (nI (q + 1)), rfl, by unfold f_X7_plan; rw [if_neg c1, if_neg c2, if_pos c3, if_pos c4, if_neg c9, if_neg c11] <;> rfl, by rw [ht]; exact hP, hD⟩, hS.F ht⟩) hS.2.2 dX7_plan_144
            · refine lv_bipush (v := (-4 : Int32)) hx hb dX7_plan_95 (by decide) ?_
              exact W.iret (v := (-4 : Int32)) hx hb hr (fun t ht hW => ⟨⟨(-4 : Int32), om_s, rfl, by unfold f_X7_plan; rw [if_neg c1, if_neg c2, if_pos c3, if_pos c4, if_neg c9, if_pos c11] <;> rfl, by rw [ht]; exact hP, hD⟩, hS.F ht⟩) hS.2.2 dX7_plan_97
      · refine lv_aload_n hx hb dX7_plan_38 rfl (lv_at hl 0 rfl) ?_
        refine lv_iload_n hx hb dX7_plan_39 rfl (lv_at hl 2 rfl) ?_
        refine cRoV (q0 := 0) (ci := 7) mw8_2 mw8_3 mw8_4 mw1_5 mw8_5 rfl rfl hd_X7_isOne hx hb hml hown hG hKX (c_X7_isOne l D cy om om_thrown om_s om_kept om_aside om_isKept om_reaches om_ringOf om_rungOf om_rings om_ringMany om_paid om_leftOf om_ringPaid om_paidAll om_mosts om_text om_signs om_at om_isWrong om_clauses om_letters om_one om_two om_three om_whys om_backs om_sorts om_sizes om_items v n hn hs0) ⟨Nat.le_of_ble_eq_true rfl, Nat.le_of_ble_eq_true rfl⟩ ⟨Nat.zero_le _, Nat.zero_le _⟩ hP rfl rfl hl.1 rfl (Nat.le_of_ble_eq_true rfl) dX7_plan_40 ?_
        refine lv_if_ne (tgt := 48) hx hb dX7_plan_43 (by decide) (fun c12 => ?_) (fun c12 => ?_)
        · obtain ⟨j43, hj43, hlj43, rfl⟩ := isO_of (by omega) c12
          refine lv_iload_n hx hb dX7_plan_48 rfl (lv_at hl 1 rfl) ?_
          refine lv_if_ne (tgt := 64) hx hb dX7_plan_49 (by decide) (fun c13 => ?_) (fun c13 => ?_)
          · refine lv_iload_n hx hb dX7_plan_64 rfl (lv_at hl 1 rfl) ?_
            refine lv_iconst (v := (3 : Int32)) hx hb dX7_plan_65 (by decide) ?_
            refine lv_icmp_ne (tgt := 84) hx hb dX7_plan_66 (by decide) (fun c14 => ?_) (fun c14 => ?_)
            · refine lv_aload_n hx hb dX7_plan_84 rfl (lv_at hl 0 rfl) ?_
              refine gf_X7_15 hx hb hG hown hKX hP 0 rfl rfl dX7_plan_85 ?_
              refine lv_iconst (v := (3 : Int32)) hx hb dX7_plan_88 (by decide) ?_
              refine iald_v hx hb hKX hP 1 rfl rfl (by decide) (by decide) hs3 dX7_plan_89 ?_
              refine lv_bipush (v := (8 : Int32)) hx hb dX7_plan_90 (by decide) ?_
              refine lv_icmp_ne (tgt := 98) hx hb dX7_plan_92 (by decide) (fun c15 => ?_) (fun c15 => ?_)
              · have hqlt : q < 8 := by have h9 : q ≠ 8 := fun q9 => c15 (by rw [q9]; rfl); omega
                refine lv_aload_n hx hb dX7_plan_98 rfl (lv_at hl 0 rfl) ?_
                refine gf_X7_15 hx hb hG hown hKX hP 0 rfl rfl dX7_plan_99 ?_
                refine lv_bipush (v := (45 : Int32)) hx hb dX7_plan_102 (by decide) ?_
                refine lv_aload_n hx hb dX7_plan_104 rfl (lv_at hl 0 rfl) ?_
                refine gf_X7_15 hx hb hG hown hKX hP 0 rfl rfl dX7_plan_105 ?_
                refine lv_iconst (v := (3 : Int32)) hx hb dX7_plan_108 (by decide) ?_
                refine iald_v hx hb hKX hP 1 rfl rfl (by decide) (by decide) hs3 dX7_plan_109 ?_
                refine lv_iadd hx hb dX7_plan_110 ?_
                refine topi_eq (y := nI (45 + q)) (aN rfl rfl) ?_
                refine lv_iload_n hx hb dX7_plan_111 rfl (lv_at hl 1 rfl) ?_
                refine iast_n hx hb hKX hP hD hS 1 rfl rfl (by omega) (by decide) dX7_plan_112 (fun H locs hP hD hS => ?_)
                have hP : va_P D vwCl (wX7 cy om om_thrown (upd om_s (45 + q) what) om_kept om_aside om_isKept om_reaches om_ringOf om_rungOf om_rings om_ringMany om_paid om_leftOf om_ringPaid om_paidAll om_mosts om_text om_signs om_at om_isWrong om_clauses om_letters om_one om_two om_three om_whys om_backs om_sorts om_sizes om_items) H := hP
                have hD : va_D A (wX7 cy om om_thrown (upd om_s (45 + q) what) om_kept om_aside om_isKept om_reaches om_ringOf om_rungOf om_rings om_ringMany om_paid om_leftOf om_ringPaid om_paidAll om_mosts om_text om_signs om_at om_isWrong om_clauses om_letters om_one om_two om_three om_whys om_backs om_sorts om_sizes om_items) := hD
                refine lv_aload_n hx hb dX7_plan_113 rfl (lv_at hl 0 rfl) ?_
                refine gf_X7_15 hx hb hG hown hKX hP 0 rfl rfl dX7_plan_114 ?_
                refine lv_bipush (v := (53 : Int32)) hx hb dX7_plan_117 (by decide) ?_
                refine lv_aload_n hx hb dX7_plan_119 rfl (lv_at hl 0 rfl) ?_
                refine gf_X7_15 hx hb hG hown hKX hP 0 rfl rfl dX7_plan_120 ?_
                refine lv_iconst (v := (3 : Int32)) hx hb dX7_plan_123 (by decide) ?_
                refine iald_v hx hb hKX hP 1 rfl rfl (by decide) (by decide) ((pk_un (j := 3) (by omega)).trans hs3) dX7_plan_124 ?_
                refine lv_iadd hx hb dX7_plan_125 ?_
                refine topi_eq (y := nI (53 + q)) (aN rfl rfl) ?_
                refine lv_iload_n hx hb dX7_plan_126 rfl (lv_at hl 2 rfl) ?_
                refine iast_n hx hb hKX hP hD hS 1 rfl rfl (by omega) (by decide) dX7_plan_127 (fun H locs hP hD hS => ?_)
                have hP : va_P D vwCl (wX7 cy om om_thrown (upd (upd om_s (45 + q) what) (53 + q) (nI j43)) om_kept om_aside om_isKept om_reaches om_ringOf om_rungOf om_rings om_ringMany om_paid om_leftOf om_ringPaid om_paidAll om_mosts om_text om_signs om_at om_isWrong om_clauses om_letters om_one om_two om_three om_whys om_backs om_sorts om_sizes om_items) H := hP
                have hD : va_D A (wX7 cy om om_thrown (upd (upd om_s (45 + q) what) (53 + q) (nI j43)) om_kept om_aside om_isKept om_reaches om_ringOf om_rungOf om_rings om_ringMany om_paid om_leftOf om_ringPaid om_paidAll om_mosts om_text om_signs om_at om_isWrong om_clauses om_letters om_one om_two om_three om_whys om_backs om_sorts om_sizes om_items) := hD
                refine lv_aload_n hx hb dX7_plan_128 rfl (lv_at hl 0 rfl) ?_
                refine gf_X7_15 hx hb hG hown hKX hP 0 rfl rfl dX7_plan_129 ?_
                refine lv_iconst (v := (3 : Int32)) hx hb dX7_plan_132 (by decide) ?_
                refine lv_dup2_11 hx hb dX7_plan_133 rfl rfl ?_
                refine iald_v hx hb hKX hP 1 rfl rfl (by decide) (by decide) ((pk_un (j := 3) (by omega)).trans ((pk_un (j := 3) (by omega)).trans hs3)) dX7_plan_134 ?_
                refine lv_iconst (v := (1 : Int32)) hx hb dX7_plan_135 (by decide) ?_
                refine lv_iadd hx hb dX7_plan_136 ?_
                refine topi_eq (y := nI (q + 1)) (aN rfl rfl) ?_
                refine iast_n hx hb hKX hP hD hS 1 rfl rfl (by decide) (by decide) dX7_plan_137 (fun H locs hP hD hS => ?_)
                have hP : va_P D vwCl (wX7 cy om om_thrown (upd (upd (upd om_s (45 + q) what) (53 + q) (nI j43)) 3 (nI (q + 1))) om_kept om_aside om_isKept om_reaches om_ringOf om_rungOf om_rings om_ringMany om_paid om_leftOf om_ringPaid om_paidAll om_mosts om_text om_signs om_at om_isWrong om_clauses om_letters om_one om_two om_three om_whys om_backs om_sorts om_sizes om_items) H := hP
                have hD : va_D A (wX7 cy om om_thrown (upd (upd (upd om_s (45 + q) what) (53 + q) (nI j43)) 3 (nI (q + 1))) om_kept om_aside om_isKept om_reaches om_ringOf om_rungOf om_rings om_ringMany om_paid om_leftOf om_ringPaid om_paidAll om_mosts om_text om_signs om_at om_isWrong om_clauses om_letters om_one om_two om_three om_whys om_backs om_sorts om_sizes om_items) := hD
                refine lv_aload_n hx hb dX7_plan_138 rfl (lv_at hl 0 rfl) ?_
                refine gf_X7_15 hx hb hG hown hKX hP 0 rfl rfl dX7_plan_139 ?_
                refine lv_iconst (v := (3 : Int32)) hx hb dX7_plan_142 (by decide) ?_
                refine iald_v hx hb hKX hP 1 rfl rfl (by decide) (by decide) pk_us dX7_plan_143 ?_
                exact W.iret (v := nI (q + 1)) hx hb hr (fun t ht hW => ⟨⟨nI (q + 1), upd (upd (upd om_s (45 + q) what) (53 + q) (nI j43)) 3 (nI (q + 1)), rfl, by unfold f_X7_plan; (try simp only [hj43]); rw [if_neg c1, if_neg c2, if_neg c3, if_neg c12, if_neg c13, if_neg c14, if_neg c15] <;> rfl, by rw [ht]; exact hP, hD⟩, hS.F ht⟩) hS.2.2 dX7_plan_144
              · refine lv_bipush (v := (-4 : Int32)) hx hb dX7_plan_95 (by decide) ?_
                exact W.iret (v := (-4 : Int32)) hx hb hr (fun t ht hW => ⟨⟨(-4 : Int32), om_s, rfl, by unfold f_X7_plan; (try simp only [hj43]); rw [if_neg c1, if_neg c2, if_neg c3, if_neg c12, if_neg c13, if_neg c14, if_pos c15] <;> rfl, by rw [ht]; exact hP, hD⟩, hS.F ht⟩) hS.2.2 dX7_plan_97
            · refine lv_iload_n hx hb dX7_plan_69 rfl (lv_at hl 2 rfl) ?_
              refine lv_i2l (v := ((nI j43).toInt64)) hx hb dX7_plan_70 rfl ?_
              refine lv_lconst (v := (0 : Int64)) hx hb dX7_plan_71 (by decide) ?_
              refine lv_ldc2 (v := (20 : Int64)) hx hb hown (hG _ mw7_2) dX7_plan_72 ?_
              refine cRoS mw7_3 mw7_4 mw1_5 mw7_5 hd_X7_in hx hb hml hown hG hKX (c_X7_in l D cy ((nI j43).toInt64) (0 : Int64) (20 : Int64)) ⟨Nat.le_of_ble_eq_true rfl, Nat.le_of_ble_eq_true rfl⟩ ⟨Nat.zero_le _, Nat.zero_le _⟩ (hP.sub [] rfl) rfl hl.1 rfl (Nat.le_of_ble_eq_true rfl) dX7_plan_75 ?_
              refine lv_if_ne (tgt := 84) hx hb dX7_plan_78 (by decide) (fun c16 => ?_) (fun c16 => ?_)
              · refine lv_aload_n hx hb dX7_plan_84 rfl (lv_at hl 0 rfl) ?_
                refine gf_X7_15 hx hb hG hown hKX hP 0 rfl rfl dX7_plan_85 ?_
                refine lv_iconst (v := (3 : Int32)) hx hb dX7_plan_88 (by decide) ?_
                refine iald_v hx hb hKX hP 1 rfl rfl (by decide) (by decide) hs3 dX7_plan_89 ?_
                refine lv_bipush (v := (8 : Int32)) hx hb dX7_plan_90 (by decide) ?_
                refine lv_icmp_ne (tgt := 98) hx hb dX7_plan_92 (by decide) (fun c17 => ?_) (fun c17 => ?_)
                · have hqlt : q < 8 := by have h9 : q ≠ 8 := fun q9 => c17 (by rw [q9]; rfl); omega
                  refine lv_aload_n hx hb dX7_plan_98 rfl (lv_at hl 0 rfl) ?_
                  refine gf_X7_15 hx hb hG hown hKX hP 0 rfl rfl dX7_plan_99 ?_
                  refine lv_bipush (v := (45 : Int32)) hx hb dX7_plan_102 (by decide) ?_
                  refine lv_aload_n hx hb dX7_plan_104 rfl (lv_at hl 0 rfl) ?_
                  refine gf_X7_15 hx hb hG hown hKX hP 0 rfl rfl dX7_plan_105 ?_
                  refine lv_iconst (v := (3 : Int32)) hx hb dX7_plan_108 (by decide) ?_
                  refine iald_v hx hb hKX hP 1 rfl rfl (by decide) (by decide) hs3 dX7_plan_109 ?_
                  refine lv_iadd hx hb dX7_plan_110 ?_
                  refine topi_eq (y := nI (45 + q)) (aN rfl rfl) ?_
                  refine lv_iload_n hx hb dX7_plan_111 rfl (lv_at hl 1 rfl) ?_
                  refine iast_n hx hb hKX hP hD hS 1 rfl rfl (by omega) (by decide) dX7_plan_112 (fun H locs hP hD hS => ?_)
                  have hP : va_P D vwCl (wX7 cy om om_thrown (upd om_s (45 + q) what) om_kept om_aside om_isKept om_reaches om_ringOf om_rungOf om_rings om_ringMany om_paid om_leftOf om_ringPaid om_paidAll om_mosts om_text om_signs om_at om_isWrong om_clauses om_letters om_one om_two om_three om_whys om_backs om_sorts om_sizes om_items) H := hP
                  have hD : va_D A (wX7 cy om om_thrown (upd om_s (45 + q) what) om_kept om_aside om_isKept om_reaches om_ringOf om_rungOf om_rings om_ringMany om_paid om_leftOf om_ringPaid om_paidAll om_mosts om_text om_signs om_at om_isWrong om_clauses om_letters om_one om_two om_three om_whys om_backs om_sorts om_sizes om_items) := hD
                  refine lv_aload_n hx hb dX7_plan_113 rfl (lv_at hl 0 rfl) ?_
                  refine gf_X7_15 hx hb hG hown hKX hP 0 rfl rfl dX7_plan_114 ?_
                  refine lv_bipush (v := (53 : Int32)) hx hb dX7_plan_117 (by decide) ?_
                  refine lv_aload_n hx hb dX7_plan_119 rfl (lv_at hl 0 rfl) ?_
                  refine gf_X7_15 hx hb hG hown hKX hP 0 rfl rfl dX7_plan_120 ?_
                  refine lv_iconst (v := (3 : Int32)) hx hb dX7_plan_123 (by decide) ?_
                  refine iald_v hx hb hKX hP 1 rfl rfl (by decide) (by decide) ((pk_un (j := 3) (by omega)).trans hs3) dX7_plan_124 ?_
                  refine lv_iadd hx hb dX7_plan_125 ?_
                  refine topi_eq (y := nI (53 + q)) (aN rfl rfl) ?_
                  refine lv_iload_n hx hb dX7_plan_126 rfl (lv_at hl 2 rfl) ?_
                  refine iast_n hx hb hKX hP hD hS 1 rfl rfl (by omega) (by decide) dX7_plan_127 (fun H locs hP hD hS => ?_)
                  have hP : va_P D vwCl (wX7 cy om om_thrown (upd (upd om_s (45 + q) what) (53 + q) (nI j43)) om_kept om_aside om_isKept om_reaches om_ringOf om_rungOf om_rings om_ringMany om_paid om_leftOf om_ringPaid om_paidAll om_mosts om_text om_signs om_at om_isWrong om_clauses om_letters om_one om_two om_three om_whys om_backs om_sorts om_sizes om_items) H := hP
                  have hD : va_D A (wX7 cy om om_thrown (upd (upd om_s (45 + q) what) (53 + q) (nI j43)) om_kept om_aside om_isKept om_reaches om_ringOf om_rungOf om_rings om_ringMany om_paid om_leftOf om_ringPaid om_paidAll om_mosts om_text om_signs om_at om_isWrong om_clauses om_letters om_one om_two om_three om_whys om_backs om_sorts om_sizes om_items) := hD
                  refine lv_aload_n hx hb dX7_plan_128 rfl (lv_at hl 0 rfl) ?_
                  refine gf_X7_15 hx hb hG hown hKX hP 0 rfl rfl dX7_plan_129 ?_
                  refine lv_iconst (v := (3 : Int32)) hx hb dX7_plan_132 (by decide) ?_
                  refine lv_dup2_11 hx hb dX7_plan_133 rfl rfl ?_
                  refine iald_v hx hb hKX hP 1 rfl rfl (by decide) (by decide) ((pk_un (j := 3) (by omega)).trans ((pk_un (j := 3) (by omega)).trans hs3)) dX7_plan_134 ?_
                  refine lv_iconst (v := (1 : Int32)) hx hb dX7_plan_135 (by decide) ?_
                  refine lv_iadd hx hb dX7_plan_136 ?_
                  refine topi_eq (y := nI (q + 1)) (aN rfl rfl) ?_
                  refine iast_n hx hb hKX hP hD hS 1 rfl rfl (by decide) (by decide) dX7_plan_137 (fun H locs hP hD hS => ?_)
                  have hP : va_P D vwCl (wX7 cy om om_thrown (upd (upd (upd om_s (45 + q) what) (53 + q) (nI j43)) 3 (nI (q + 1))) om_kept om_aside om_isKept om_reaches om_ringOf om_rungOf om_rings om_ringMany om_paid om_leftOf om_ringPaid om_paidAll om_mosts om_text om_signs om_at om_isWrong om_clauses om_letters om_one om_two om_three om_whys om_backs om_sorts om_sizes om_items) H := hP
                  have hD : va_D A (wX7 cy om om_thrown (upd (upd (upd om_s (45 + q) what) (53 + q) (nI j43)) 3 (nI (q + 1))) om_kept om_aside om_isKept om_reaches om_ringOf om_rungOf om_rings om_ringMany om_paid om_leftOf om_ringPaid om_paidAll om_mosts om_text om_signs om_at om_isWrong om_clauses om_letters om_one om_two om_three om_whys om_backs om_sorts om_sizes om_items) := hD
                  refine lv_aload_n hx hb dX7_plan_138 rfl (lv_at hl 0 rfl) ?_
                  refine gf_X7_15 hx hb hG hown hKX hP 0 rfl rfl dX7_plan_139 ?_
                  refine lv_iconst (v := (3 : Int32)) hx hb dX7_plan_142 (by decide) ?_
                  refine iald_v hx hb hKX hP 1 rfl rfl (by decide) (by decide) pk_us dX7_plan_143 ?_
                  exact W.iret (v := nI (q + 1)) hx hb hr (fun t ht hW => ⟨⟨nI (q + 1), upd (upd (upd om_s (45 + q) what) (53 + q) (nI j43)) 3 (nI (q + 1)), rfl, by unfold f_X7_plan; (try simp only [hj43]); rw [if_neg c1, if_neg c2, if_neg c3, if_neg c12, if_neg c13, if_pos c14, if_neg c16, if_neg c17] <;> rfl, by rw [ht]; exact hP, hD⟩, hS.F ht⟩) hS.2.2 dX7_plan_144
                · refine lv_bipush (v := (-4 : Int32)) hx hb dX7_plan_95 (by decide) ?_
                  exact W.iret (v := (-4 : Int32)) hx hb hr (fun t ht hW => ⟨⟨(-4 : Int32), om_s, rfl, by unfold f_X7_plan; (try simp only [hj43]); rw [if_neg c1, if_neg c2, if_neg c3, if_neg c12, if_neg c13, if_pos c14, if_neg c16, if_pos c17] <;> rfl, by rw [ht]; exact hP, hD⟩, hS.F ht⟩) hS.2.2 dX7_plan_97
              · refine lv_bipush (v := (-2 : Int32)) hx hb dX7_plan_81 (by decide) ?_
                exact W.iret (v := (-2 : Int32)) hx hb hr (fun t ht hW => ⟨⟨(-2 : Int32), om_s, rfl, by unfold f_X7_plan; (try simp only [hj43]); rw [if_neg c1, if_neg c2, if_neg c3, if_neg c12, if_neg c13, if_pos c14, if_pos c16] <;> rfl, by rw [ht]; exact hP, hD⟩, hS.F ht⟩) hS.2.2 dX7_plan_83
          · refine lv_iload_n hx hb dX7_plan_52 rfl (lv_at hl 2 rfl) ?_
            refine lv_i2l (v := ((nI j43).toInt64)) hx hb dX7_plan_53 rfl ?_
            refine lv_lconst (v := (0 : Int64)) hx hb dX7_plan_54 (by decide) ?_
            refine lv_ldc2 (v := (300 : Int64)) hx hb hown (hG _ mw9_13) dX7_plan_55 ?_
            refine cRoS mw7_3 mw7_4 mw1_5 mw7_5 hd_X7_in hx hb hml hown hG hKX (c_X7_in l D cy ((nI j43).toInt64) (0 : Int64) (300 : Int64)) ⟨Nat.le_of_ble_eq_true rfl, Nat.le_of_ble_eq_true rfl⟩ ⟨Nat.zero_le _, Nat.zero_le _⟩ (hP.sub [] rfl) rfl hl.1 rfl (Nat.le_of_ble_eq_true rfl) dX7_plan_58 ?_
            refine lv_if_eq (tgt := 81) hx hb dX7_plan_61 (by decide) (fun c18 => ?_) (fun c18 => ?_)
            · refine lv_bipush (v := (-2 : Int32)) hx hb dX7_plan_81 (by decide) ?_
              exact W.iret (v := (-2 : Int32)) hx hb hr (fun t ht hW => ⟨⟨(-2 : Int32), om_s, rfl, by unfold f_X7_plan; (try simp only [hj43]); rw [if_neg c1, if_neg c2, if_neg c3, if_neg c12, if_pos c13, if_pos c18] <;> rfl, by rw [ht]; exact hP, hD⟩, hS.F ht⟩) hS.2.2 dX7_plan_83
            · refine lv_iload_n hx hb dX7_plan_64 rfl (lv_at hl 1 rfl) ?_
              refine lv_iconst (v := (3 : Int32)) hx hb dX7_plan_65 (by decide) ?_
              refine lv_icmp_ne (tgt := 84) hx hb dX7_plan_66 (by decide) (fun _ => ?_) (fun c19 => absurd c19 (fun qq_ => absurd (c13.symm.trans qq_) (by decide)))
              refine lv_aload_n hx hb dX7_plan_84 rfl (lv_at hl 0 rfl) ?_
              refine gf_X7_15 hx hb hG hown hKX hP 0 rfl rfl dX7_plan_85 ?_
              refine lv_iconst (v := (3 : Int32)) hx hb dX7_plan_88 (by decide) ?_
              refine iald_v hx hb hKX hP 1 rfl rfl (by decide) (by decide) hs3 dX7_plan_89 ?_
              refine lv_bipush (v := (8 : Int32)) hx hb dX7_plan_90 (by decide) ?_
              refine lv_icmp_ne (tgt := 98) hx hb dX7_plan_92 (by decide) (fun c20 => ?_) (fun c20 => ?_)
              · have hqlt : q < 8 := by have h9 : q ≠ 8 := fun q9 => c20 (by rw [q9]; rfl); omega
                refine lv_aload_n hx hb dX7_plan_98 rfl (lv_at hl 0 rfl) ?_
                refine gf_X7_15 hx hb hG hown hKX hP 0 rfl rfl dX7_plan_99 ?_
                refine lv_bipush (v := (45 : Int32)) hx hb dX7_plan_102 (by decide) ?_
                refine lv_aload_n hx hb dX7_plan_104 rfl (lv_at hl 0 rfl) ?_
                refine gf_X7_15 hx hb hG hown hKX hP 0 rfl rfl dX7_plan_105 ?_
                refine lv_iconst (v := (3 : Int32)) hx hb dX7_plan_108 (by decide) ?_
                refine iald_v hx hb hKX hP 1 rfl rfl (by decide) (by decide) hs3 dX7_plan_109 ?_
                refine lv_iadd hx hb dX7_plan_110 ?_
                refine topi_eq (y := nI (45 + q)) (aN rfl rfl) ?_
                refine lv_iload_n hx hb dX7_plan_111 rfl (lv_at hl 1 rfl) ?_
                refine iast_n hx hb hKX hP hD hS 1 rfl rfl (by omega) (by decide) dX7_plan_112 (fun H locs hP hD hS => ?_)
                have hP : va_P D vwCl (wX7 cy om om_thrown (upd om_s (45 + q) what) om_kept om_aside om_isKept om_reaches om_ringOf om_rungOf om_rings om_ringMany om_paid om_leftOf om_ringPaid om_paidAll om_mosts om_text om_signs om_at om_isWrong om_clauses om_letters om_one om_two om_three om_whys om_backs om_sorts om_sizes om_items) H := hP
                have hD : va_D A (wX7 cy om om_thrown (upd om_s (45 + q) what) om_kept om_aside om_isKept om_reaches om_ringOf om_rungOf om_rings om_ringMany om_paid om_leftOf om_ringPaid om_paidAll om_mosts om_text om_signs om_at om_isWrong om_clauses om_letters om_one om_two om_three om_whys om_backs om_sorts om_sizes om_items) := hD
                refine lv_aload_n hx hb dX7_plan_113 rfl (lv_at hl 0 rfl) ?_
                refine gf_X7_15 hx hb hG hown hKX hP 0 rfl rfl dX7_plan_114 ?_
                refine lv_bipush (v := (53 : Int32)) hx hb dX7_plan_117 (by decide) ?_
                refine lv_aload_n hx hb dX7_plan_119 rfl (lv_at hl 0 rfl) ?_
                refine gf_X7_15 hx hb hG hown hKX hP 0 rfl rfl dX7_plan_120 ?_
                refine lv_iconst (v := (3 : Int32)) hx hb dX7_plan_123 (by decide) ?_
                refine iald_v hx hb hKX hP 1 rfl rfl (by decide) (by decide) ((pk_un (j := 3) (by omega)).trans hs3) dX7_plan_124 ?_
                refine lv_iadd hx hb dX7_plan_125 ?_
                refine topi_eq (y := nI (53 + q)) (aN rfl rfl) ?_
                refine lv_iload_n hx hb dX7_plan_126 rfl (lv_at hl 2 rfl) ?_
                refine iast_n hx hb hKX hP hD hS 1 rfl rfl (by omega) (by decide) dX7_plan_127 (fun H locs hP hD hS => ?_)
                have hP : va_P D vwCl (wX7 cy om om_thrown (upd (upd om_s (45 + q) what) (53 + q) (nI j43)) om_kept om_aside om_isKept om_reaches om_ringOf om_rungOf om_rings om_ringMany om_paid om_leftOf om_ringPaid om_paidAll om_mosts om_text om_signs om_at om_isWrong om_clauses om_letters om_one om_two om_three om_whys om_backs om_sorts om_sizes om_items) H := hP
                have hD : va_D A (wX7 cy om om_thrown (upd (upd om_s (45 + q) what) (53 + q) (nI j43)) om_kept om_aside om_isKept om_reaches om_ringOf om_rungOf om_rings om_ringMany om_paid om_leftOf om_ringPaid om_paidAll om_mosts om_text om_signs om_at om_isWrong om_clauses om_letters om_one om_two om_three om_whys om_backs om_sorts om_sizes om_items) := hD
                refine lv_aload_n hx hb dX7_plan_128 rfl (lv_at hl 0 rfl) ?_
                refine gf_X7_15 hx hb hG hown hKX hP 0 rfl rfl dX7_plan_129 ?_
                refine lv_iconst (v := (3 : Int32)) hx hb dX7_plan_132 (by decide) ?_
                refine lv_dup2_11 hx hb dX7_plan_133 rfl rfl ?_
                refine iald_v hx hb hKX hP 1 rfl rfl (by decide) (by decide) ((pk_un (j := 3) (by omega)).trans ((pk_un (j := 3) (by omega)).trans hs3)) dX7_plan_134 ?_
                refine lv_iconst (v := (1 : Int32)) hx hb dX7_plan_135 (by decide) ?_
                refine lv_iadd hx hb dX7_plan_136 ?_
                refine topi_eq (y := nI (q + 1)) (aN rfl rfl) ?_
                refine iast_n hx hb hKX hP hD hS 1 rfl rfl (by decide) (by decide) dX7_plan_137 (fun H locs hP hD hS => ?_)
                have hP : va_P D vwCl (wX7 cy om om_thrown (upd (upd (upd om_s (45 + q) what) (53 + q) (nI j43)) 3 (nI (q + 1))) om_kept om_aside om_isKept om_reaches om_ringOf om_rungOf om_rings om_ringMany om_paid om_leftOf om_ringPaid om_paidAll om_mosts om_text om_signs om_at om_isWrong om_clauses om_letters om_one om_two om_three om_whys om_backs om_sorts om_sizes om_items) H := hP
                have hD : va_D A (wX7 cy om om_thrown (upd (upd (upd om_s (45 + q) what) (53 + q) (nI j43)) 3 (nI (q + 1))) om_kept om_aside om_isKept om_reaches om_ringOf om_rungOf om_rings om_ringMany om_paid om_leftOf om_ringPaid om_paidAll om_mosts om_text om_signs om_at om_isWrong om_clauses om_letters om_one om_two om_three om_whys om_backs om_sorts om_sizes om_items) := hD
                refine lv_aload_n hx hb dX7_plan_138 rfl (lv_at hl 0 rfl) ?_
                refine gf_X7_15 hx hb hG hown hKX hP 0 rfl rfl dX7_plan_139 ?_
                refine lv_iconst (v := (3 : Int32)) hx hb dX7_plan_142 (by decide) ?_
                refine iald_v hx hb hKX hP 1 rfl rfl (by decide) (by decide) pk_us dX7_plan_143 ?_
                exact W.iret (v := nI (q + 1)) hx hb hr (fun t ht hW => ⟨⟨nI (q + 1), upd (upd (upd om_s (45 + q) what) (53 + q) (nI j43)) 3 (nI (q + 1)), rfl, by unfold f_X7_plan; (try simp only [hj43]); rw [if_neg c1, if_neg c2, if_neg c3, if_neg c12, if_pos c13, if_neg c18, if_neg c20] <;> rfl, by rw [ht]; exact hP, hD⟩, hS.F ht⟩) hS.2.2 dX7_plan_144
              · refine lv_bipush (v := (-4 : Int32)) hx hb dX7_plan_95 (by decide) ?_
                exact W.iret (v := (-4 : Int32)) hx hb hr (fun t ht hW => ⟨⟨(-4 : Int32), om_s, rfl, by unfold f_X7_plan; (try simp only [hj43]); rw [if_neg c1, if_neg c2, if_neg c3, if_neg c12, if_pos c13, if_neg c18, if_pos c20] <;> rfl, by rw [ht]; exact hP, hD⟩, hS.F ht⟩) hS.2.2 dX7_plan_97
        · refine lv_iconst (v := (-1 : Int32)) hx hb dX7_plan_46 (by decide) ?_
          exact W.iret (v := (-1 : Int32)) hx hb hr (fun t ht hW => ⟨⟨(-1 : Int32), om_s, rfl, by unfold f_X7_plan; rw [if_neg c1, if_neg c2, if_neg c3, if_pos c12] <;> rfl, by rw [ht]; exact hP, hD⟩, hS.F ht⟩) hS.2.2 dX7_plan_47
  · refine lv_aload_n hx hb dX7_plan_5 rfl (lv_at hl 0 rfl) ?_
    refine gf_X7_15 hx hb hG hown hKX hP 0 rfl rfl dX7_plan_6 ?_
    refine lv_iconst (v := (3 : Int32)) hx hb dX7_plan_9 (by decide) ?_
    refine lv_iconst (v := (0 : Int32)) hx hb dX7_plan_10 (by decide) ?_
    refine iast_n hx hb hKX hP hD hS 1 rfl rfl (by decide) (by decide) dX7_plan_11 (fun H locs hP hD hS => ?_)
    have hP : va_P D vwCl (wX7 cy om om_thrown (upd om_s 3 (0 : Int32)) om_kept om_aside om_isKept om_reaches om_ringOf om_rungOf om_rings om_ringMany om_paid om_leftOf om_ringPaid om_paidAll om_mosts om_text om_signs om_at om_isWrong om_clauses om_letters om_one om_two om_three om_whys om_backs om_sorts om_sizes om_items) H := hP
    have hD : va_D A (wX7 cy om om_thrown (upd om_s 3 (0 : Int32)) om_kept om_aside om_isKept om_reaches om_ringOf om_rungOf om_rings om_ringMany om_paid om_leftOf om_ringPaid om_paidAll om_mosts om_text om_signs om_at om_isWrong om_clauses om_letters om_one om_two om_three om_whys om_backs om_sorts om_sizes om_items) := hD
    refine lv_iconst (v := (0 : Int32)) hx hb dX7_plan_12 (by decide) ?_
    exact W.iret (v := (0 : Int32)) hx hb hr (fun t ht hW => ⟨⟨(0 : Int32), upd om_s 3 (0 : Int32), rfl, by unfold f_X7_plan; rw [if_pos c1] <;> rfl, by rw [ht]; exact hP, hD⟩, hS.F ht⟩) hS.2.2 dX7_plan_13
def f_X7_image (om_s : Nat → Int32) (om_kept : Nat → Int32) : Int32 × (Nat → Int32) × Int32 :=
  ((om_s 0), ((f_X7_copiessk om_s om_kept), (1 : Int32)))
set_option maxHeartbeats 4000000 in
set_option maxRecDepth 100000 in
theorem c_X7_image (l : Launch) (D : va_G) (cy : Nat → ClassId) (om : Nat → Nat) (om_thrown : Int32) (om_s : Nat → Int32) (om_kept : Nat → Int32) (om_aside : Nat → Int32) (om_isKept : Int32) (om_reaches : Nat → Int32) (om_ringOf : Nat → Int32) (om_rungOf : Nat → Int32) (om_rings : Nat → Int32) (om_ringMany : Int32) (om_paid : Nat → Int32) (om_leftOf : Nat → Int32) (om_ringPaid : Nat → Int32) (om_paidAll : Int32) (om_mosts : Nat → Int32) (om_text : Nat → Int32) (om_signs : Int32) (om_at : Int32) (om_isWrong : Int32) (om_clauses : Int32) (om_letters : Nat → Int32) (om_one : Nat → Int32) (om_two : Nat → Int32) (om_three : Nat → Int32) (om_whys : Nat → Int32) (om_backs : Nat → Int32) (om_sorts : Nat → Int32) (om_sizes : Nat → Int32) (om_items : Nat → Int64) : RwI (S := (Nat → Int32) × Int32) l D cy yX7_image (.code yX7_image cX7_image 1 (some .int)) 1 (wX7 cy om om_thrown om_s om_kept om_aside om_isKept om_reaches om_ringOf om_rungOf om_rings om_ringMany om_paid om_leftOf om_ringPaid om_paidAll om_mosts om_text om_signs om_at om_isWrong om_clauses om_letters om_one om_two om_three om_whys om_backs om_sorts om_sizes om_items) [.ref (om 0)] (fun rr u => (rr, u) = f_X7_image om_s om_kept) (fun u => wX7 cy om om_thrown om_s u.1 om_aside u.2 om_reaches om_ringOf om_rungOf om_rings om_ringMany om_paid om_leftOf om_ringPaid om_paidAll om_mosts om_text om_signs om_at om_isWrong om_clauses om_letters om_one om_two om_three om_whys om_backs om_sorts om_sizes om_items) := by
  intro sz
  refine Met.ofW (cc := cX7_image) (maxL := 1) (ret := (some .int)) (by decide) rfl ?_
  intro pP eE s0 mM args below meth cC s₁ B hml hv
  obtain ⟨rfl, hsz, hP, hKX, hD0⟩ := hv
  have hx := B.exec
  have hb := B.bytes
  have hr := B.returns
  have hG := gw_hts (atoms_spec (ws := _) B.pre)
  have hown : s0.vm.findClass RX7 = some mM.cls := findClass_of_methodNamed B.named
  have hlocks := B.notSynchronized
  subst hsz
  have hD := hD0.self (sz := s0.heap.size)
  generalize hAe : va_A (wX7 cy om om_thrown om_s om_kept om_aside om_isKept om_reaches om_ringOf om_rungOf om_rings om_ringMany om_paid om_leftOf om_ringPaid om_paidAll om_mosts om_text om_signs om_at om_isWrong om_clauses om_letters om_one om_two om_three om_whys om_backs om_sorts om_sizes om_items) s0.heap.size = A at hD ⊢
  have hA : ∀ q : Nat, s0.heap.size ≤ q → A q := fun q h => by rw [← hAe]; exact Or.inr h
  have hS : va_S A s0.heap s0.heap [] := va_S.rf
  have hl := lv_entry ([.ref (om 0)]) (n := 1) (Nat.le_of_ble_eq_true rfl)
  rw [lg_entry_eq]
  generalize (lg_sl ([.ref (om 0)]) ++ List.replicate (1 - (lg_sl ([.ref (om 0)])).length) Slot.unset).toArray = ls at hl ⊢
  have hl : lv_has ls 1 [(0, .ref (om 0))] := hl
  refine lv_aload_n hx hb dX7_image_0 rfl (lv_at hl 0 rfl) ?_
  refine gf_X7_15 hx hb hG hown hKX hP 0 rfl rfl dX7_image_1 ?_
  refine lv_aload_n hx hb dX7_image_4 rfl (lv_at hl 0 rfl) ?_
  refine gf_X7_19 hx hb hG hown hKX hP 0 rfl rfl dX7_image_5 ?_
  refine cRwSV mw30_10 mw30_11 mw1_5 mw30_12 hd_X7_copies hx hb hml hown hG hKX (c_X7_copiessk l D cy om om_thrown om_s om_kept om_aside om_isKept om_reaches om_ringOf om_rungOf om_rings om_ringMany om_paid om_leftOf om_ringPaid om_paidAll om_mosts om_text om_signs om_at om_isWrong om_clauses om_letters om_one om_two om_three om_whys om_backs om_sorts om_sizes om_items) ⟨Nat.le_of_ble_eq_true rfl, Nat.le_of_ble_eq_true rfl⟩ ⟨Nat.zero_le _, Nat.zero_le _⟩ hP hD hS hA [0, 1, 2, 3, 4, 5, 6, 7, 8, 9, 10, 11, 12, 13, 14, 15, 16, 17, 18, 19, 20, 21] [] [0, 1, 2, 3, 4, 5, 6, 7, 8, 9, 10, 11, 12, 13, 14, 15, 16, 17, 18, 19, 20, 21] (wr := []) (wn := fun u8 => wX7 cy om om_thrown om_s u8 om_aside om_isKept om_reaches om_ringOf om_rungOf om_rings om_ringMany om_paid om_leftOf om_ringPaid om_paidAll om_mosts om_text om_signs om_at om_isWrong om_clauses om_letters om_one om_two om_three om_whys om_backs om_sorts om_sizes om_items) rfl (by decide) rfl (by decide) (by decide) (fun _ => rfl) (by decide) rfl hl.1 rfl (Nat.le_of_ble_eq_true rfl) dX7_image_8 (fun u8 H locs hw8 hP hD hS => ?_)
  refine lv_aload_n hx hb dX7_image_11 rfl (lv_at hl 0 rfl) ?_
  refine lv_iconst (v := (1 : Int32)) hx hb dX7_image_12 (by decide) ?_
  refine pf_X7_256 hx hb hG hown hKX hP hD hS 0 rfl rfl rfl (Nat.le_of_ble_eq_true rfl) dX7_image_13 (wn := wX7 cy om om_thrown om_s u8 om_aside (1 : Int32) om_reaches om_ringOf om_rungOf om_rings om_ringMany om_paid om_leftOf om_ringPaid om_paidAll om_mosts om_text om_signs om_at om_isWrong om_clauses om_letters om_one om_two om_three om_whys om_backs om_sorts om_sizes om_items) rfl (fun H locs hP hD hS => ?_)
  refine lv_aload_n hx hb dX7_image_16 rfl (lv_at hl 0 rfl) ?_
  refine gf_X7_15 hx hb hG hown hKX hP 0 rfl rfl dX7_image_17 ?_
  refine lv_iconst (v := (0 : Int32)) hx hb dX7_image_20 (by decide) ?_
  refine iald_n hx hb hKX hP 1 rfl rfl (by decide) (by decide) dX7_image_21 ?_
  exact W.iret (v := (om_s 0)) hx hb hr (fun t ht hW => ⟨⟨(om_s 0), (u8, (1 : Int32)), rfl, by subst hw8; unfold f_X7_image; rfl, by rw [ht]; exact hP, hD⟩, hS.F ht⟩) hS.2.2 dX7_image_22
def f_X7_undo (om_s : Nat → Int32) (om_kept : Nat → Int32) (om_isKept : Int32) : Int32 × (Nat → Int32) :=
  if om_isKept = (0 : Int32) then ((-3 : Int32), om_s) else (((f_X7_copiesks om_s om_kept) 0), (f_X7_copiesks om_s om_kept))
set_option maxHeartbeats 4000000 in
set_option maxRecDepth 100000 in
theorem c_X7_undo (l : Launch) (D : va_G) (cy : Nat → ClassId) (om : Nat → Nat) (om_thrown : Int32) (om_s : Nat → Int32) (om_kept : Nat → Int32) (om_aside : Nat → Int32) (om_isKept : Int32) (om_reaches : Nat → Int32) (om_ringOf : Nat → Int32) (om_rungOf : Nat → Int32) (om_rings : Nat → Int32) (om_ringMany : Int32) (om_paid : Nat → Int32) (om_leftOf : Nat → Int32) (om_ringPaid : Nat → Int32) (om_paidAll : Int32) (om_mosts : Nat → Int32) (om_text : Nat → Int32) (om_signs : Int32) (om_at : Int32) (om_isWrong : Int32) (om_clauses : Int32) (om_letters : Nat → Int32) (om_one : Nat → Int32) (om_two : Nat → Int32) (om_three : Nat → Int32) (om_whys : Nat → Int32) (om_backs : Nat → Int32) (om_sorts : Nat → Int32) (om_sizes : Nat → Int32) (om_items : Nat → Int64) : RwI (S := (Nat → Int32)) l D cy yX7_undo (.code yX7_undo cX7_undo 1 (some .int)) 1 (wX7 cy om om_thrown om_s om_kept om_aside om_isKept om_reaches om_ringOf om_rungOf om_rings om_ringMany om_paid om_leftOf om_ringPaid om_paidAll om_mosts om_text om_signs om_at om_isWrong om_clauses om_letters om_one om_two om_three om_whys om_backs om_sorts om_sizes om_items) [.ref (om 0)] (fun rr u => (rr, u) = f_X7_undo om_s om_kept om_isKept) (fun u => wX7 cy om om_thrown u om_kept om_aside om_isKept om_reaches om_ringOf om_rungOf om_rings om_ringMany om_paid om_leftOf om_ringPaid om_paidAll om_mosts om_text om_signs om_at om_isWrong om_clauses om_letters om_one om_two om_three om_whys om_backs om_sorts om_sizes om_items) := by
  intro sz
  refine Met.ofW (cc := cX7_undo) (maxL := 1) (ret := (some .int)) (by decide) rfl ?_
  intro pP eE s0 mM args below meth cC s₁ B hml hv
  obtain ⟨rfl, hsz, hP, hKX, hD0⟩ := hv
  have hx := B.exec
  have hb := B.bytes
  have hr := B.returns
  have hG := gw_hts (atoms_spec (ws := _) B.pre)
  have hown : s0.vm.findClass RX7 = some mM.cls := findClass_of_methodNamed B.named
  have hlocks := B.notSynchronized
  subst hsz
  have hD := hD0.self (sz := s0.heap.size)
  generalize hAe : va_A (wX7 cy om om_thrown om_s om_kept om_aside om_isKept om_reaches om_ringOf om_rungOf om_rings om_ringMany om_paid om_leftOf om_ringPaid om_paidAll om_mosts om_text om_signs om_at om_isWrong om_clauses om_letters om_one om_two om_three om_whys om_backs om_sorts om_sizes om_items) s0.heap.size = A at hD ⊢
  have hA : ∀ q : Nat, s0.heap.size ≤ q → A q := fun q h => by rw [← hAe]; exact Or.inr h
  have hS : va_S A s0.heap s0.heap [] := va_S.rf
  have hl := lv_entry ([.ref (om 0)]) (n := 1) (Nat.le_of_ble_eq_true rfl)
  rw [lg_entry_eq]
  generalize (lg_sl ([.ref (om 0)]) ++ List.replicate (1 - (lg_sl ([.ref (om 0)])).length) Slot.unset).toArray = ls at hl ⊢
  have hl : lv_has ls 1 [(0, .ref (om 0))] := hl
  refine lv_aload_n hx hb dX7_undo_0 rfl (lv_at hl 0 rfl) ?_
  refine gf_X7_256 hx hb hG hown hKX hP 0 rfl rfl dX7_undo_1 ?_
  refine lv_if_ne (tgt := 10) hx hb dX7_undo_4 (by decide) (fun c1 => ?_) (fun c1 => ?_)
  · refine lv_aload_n hx hb dX7_undo_10 rfl (lv_at hl 0 rfl) ?_
    refine gf_X7_19 hx hb hG hown hKX hP 0 rfl rfl dX7_undo_11 ?_
    refine lv_aload_n hx hb dX7_undo_14 rfl (lv_at hl 0 rfl) ?_
    refine gf_X7_15 hx hb hG hown hKX hP 0 rfl rfl dX7_undo_15 ?_
    refine cRwSV mw30_10 mw30_11 mw1_5 mw30_12 hd_X7_copies hx hb hml hown hG hKX (c_X7_copiesks l D cy om om_thrown om_s om_kept om_aside om_isKept om_reaches om_ringOf om_rungOf om_rings om_ringMany om_paid om_leftOf om_ringPaid om_paidAll om_mosts om_text om_signs om_at om_isWrong om_clauses om_letters om_one om_two om_three om_whys om_backs om_sorts om_sizes om_items) ⟨Nat.le_of_ble_eq_true rfl, Nat.le_of_ble_eq_true rfl⟩ ⟨Nat.zero_le _, Nat.zero_le _⟩ hP hD hS hA [0, 1, 2, 3, 4, 5, 6, 7, 8, 9, 10, 11, 12, 13, 14, 15, 16, 17, 18, 19, 20, 21] [] [0, 1, 2, 3, 4, 5, 6, 7, 8, 9, 10, 11, 12, 13, 14, 15, 16, 17, 18, 19, 20, 21] (wr := []) (wn := fun u18 => wX7 cy om om_thrown u18 om_kept om_aside om_isKept om_reaches om_ringOf om_rungOf om_rings om_ringMany om_paid om_leftOf om_ringPaid om_paidAll om_mosts om_text om_signs om_at om_isWrong om_clauses om_letters om_one om_two om_three om_whys om_backs om_sorts om_sizes om_items) rfl (by decide) rfl (by decide) (by decide) (fun _ => rfl) (by decide) rfl hl.1 rfl (Nat.le_of_ble_eq_true rfl) dX7_undo_18 (fun u18 H locs hw18 hP hD hS => ?_)
    refine lv_aload_n hx hb dX7_undo_21 rfl (lv_at hl 0 rfl) ?_
    refine gf_X7_15 hx hb hG hown hKX hP 0 rfl rfl dX7_undo_22 ?_
    refine lv_iconst (v := (0 : Int32)) hx hb dX7_undo_25 (by decide) ?_
    refine iald_n hx hb hKX hP 1 rfl rfl (by decide) (by decide) dX7_undo_26 ?_
    exact W.iret (v := (u18 0)) hx hb hr (fun t ht hW => ⟨⟨(u18 0), u18, rfl, by subst hw18; unfold f_X7_undo; rw [if_neg c1] <;> rfl, by rw [ht]; exact hP, hD⟩, hS.F ht⟩) hS.2.2 dX7_undo_27
  · refine lv_bipush (v := (-3 : Int32)) hx hb dX7_undo_7 (by decide) ?_
    exact W.iret (v := (-3 : Int32)) hx hb hr (fun t ht hW => ⟨⟨(-3 : Int32), om_s, rfl, by unfold f_X7_undo; rw [if_pos c1] <;> rfl, by rw [ht]; exact hP, hD⟩, hS.F ht⟩) hS.2.2 dX7_undo_9
def f_X7_count (om_s : Nat → Int32) (om_signs : Int32) (what : Int32) : Int32 :=
  if what = (0 : Int32) then (om_s 2) else (if what = (1 : Int32) then (om_s 3) else (if what = (2 : Int32) then (om_s 4) else (if what = (3 : Int32) then om_signs else (-2 : Int32))))
set_option maxHeartbeats 4000000 in
set_option maxRecDepth 100000 in
theorem c_X7_count (l : Launch) (D : va_G) (cy : Nat → ClassId) (om : Nat → Nat) (om_thrown : Int32) (om_s : Nat → Int32) (om_kept : Nat → Int32) (om_aside : Nat → Int32) (om_isKept : Int32) (om_reaches : Nat → Int32) (om_ringOf : Nat → Int32) (om_rungOf : Nat → Int32) (om_rings : Nat → Int32) (om_ringMany : Int32) (om_paid : Nat → Int32) (om_leftOf : Nat → Int32) (om_ringPaid : Nat → Int32) (om_paidAll : Int32) (om_mosts : Nat → Int32) (om_text : Nat → Int32) (om_signs : Int32) (om_at : Int32) (om_isWrong : Int32) (om_clauses : Int32) (om_letters : Nat → Int32) (om_one : Nat → Int32) (om_two : Nat → Int32) (om_three : Nat → Int32) (om_whys : Nat → Int32) (om_backs : Nat → Int32) (om_sorts : Nat → Int32) (om_sizes : Nat → Int32) (om_items : Nat → Int64) (what : Int32) : RoI l D cy yX7_count (.code yX7_count cX7_count 2 (some .int)) 0 (wX7 cy om om_thrown om_s om_kept om_aside om_isKept om_reaches om_ringOf om_rungOf om_rings om_ringMany om_paid om_leftOf om_ringPaid om_paidAll om_mosts om_text om_signs om_at om_isWrong om_clauses om_letters om_one om_two om_three om_whys om_backs om_sorts om_sizes om_items) [.ref (om 0), .int what] (f_X7_count om_s om_signs what) := by
  refine Met.ofW (cc := cX7_count) (maxL := 2) (ret := (some .int)) (by decide) rfl ?_
  intro pP eE s0 mM args below meth cC s₁ B hml hv
  obtain ⟨rfl, hP, hKX⟩ := hv
  have hx := B.exec
  have hb := B.bytes
  have hr := B.returns
  have hG := gw_hts (atoms_spec (ws := _) B.pre)
  have hown : s0.vm.findClass RX7 = some mM.cls := findClass_of_methodNamed B.named
  have hlocks := B.notSynchronized
  have hl := lv_entry ([.ref (om 0), .int what]) (n := 2) (Nat.le_of_ble_eq_true rfl)
  rw [lg_entry_eq]
  generalize (lg_sl ([.ref (om 0), .int what]) ++ List.replicate (2 - (lg_sl ([.ref (om 0), .int what])).length) Slot.unset).toArray = ls at hl ⊢
  have hl : lv_has ls 2 [(0, .ref (om 0)), (1, .int what)] := hl
  refine lv_iload_n hx hb dX7_count_0 rfl (lv_at hl 1 rfl) ?_
  by_cases c1 : what = (0 : Int32)
  · refine lv_tableIn (tgt := 32) hx hb dX7_count_1 (by rw [c1]; decide) (by rw [c1]; decide) (by rw [c1]; rfl) (by decide) ?_
    refine lv_aload_n hx hb dX7_count_32 rfl (lv_at hl 0 rfl) ?_
    refine gf_X7_15 hx hb hG hown hKX hP 0 rfl rfl dX7_count_33 ?_
    refine lv_iconst (v := (2 : Int32)) hx hb dX7_count_36 (by decide) ?_
    refine iald_n hx hb hKX hP 1 rfl rfl (by decide) (by decide) dX7_count_37 ?_
    exact W.iret (v := (om_s 2)) hx hb hr (fun t ht hW => ⟨_, rfl, by unfold f_X7_count; rw [if_pos c1] <;> rfl, ht⟩) (fun q hq => by cases hq) dX7_count_38
  · by_cases c2 : what = (1 : Int32)
    · refine lv_tableIn (tgt := 39) hx hb dX7_count_1 (by rw [c2]; decide) (by rw [c2]; decide) (by rw [c2]; rfl) (by decide) ?_
      refine lv_aload_n hx hb dX7_count_39 rfl (lv_at hl 0 rfl) ?_
      refine gf_X7_15 hx hb hG hown hKX hP 0 rfl rfl dX7_count_40 ?_
      refine lv_iconst (v := (3 : Int32)) hx hb dX7_count_43 (by decide) ?_
      refine iald_n hx hb hKX hP 1 rfl rfl (by decide) (by decide) dX7_count_44 ?_
      exact W.iret (v := (om_s 3)) hx hb hr (fun t ht hW => ⟨_, rfl, by unfold f_X7_count; rw [if_neg c1, if_pos c2] <;> rfl, ht⟩) (fun q hq => by cases hq) dX7_count_45
    · by_cases c3 : what = (2 : Int32)
      · refine lv_tableIn (tgt := 46) hx hb dX7_count_1 (by rw [c3]; decide) (by rw [c3]; decide) (by rw [c3]; rfl) (by decide) ?_
        refine lv_aload_n hx hb dX7_count_46 rfl (lv_at hl 0 rfl) ?_
        refine gf_X7_15 hx hb hG hown hKX hP 0 rfl rfl dX7_count_47 ?_
        refine lv_iconst (v := (4 : Int32)) hx hb dX7_count_50 (by decide) ?_
        refine iald_n hx hb hKX hP 1 rfl rfl (by decide) (by decide) dX7_count_51 ?_
        exact W.iret (v := (om_s 4)) hx hb hr (fun t ht hW => ⟨_, rfl, by unfold f_X7_count; rw [if_neg c1, if_neg c2, if_pos c3] <;> rfl, ht⟩) (fun q hq => by cases hq) dX7_count_52
      · by_cases c4 : what = (3 : Int32)
        · refine lv_tableIn (tgt := 53) hx hb dX7_count_1 (by rw [c4]; decide) (by rw [c4]; decide) (by rw [c4]; rfl) (by decide) ?_
          refine lv_aload_n hx hb dX7_count_53 rfl (lv_at hl 0 rfl) ?_
          refine gf_X7_156 hx hb hG hown hKX hP 0 rfl rfl dX7_count_54 ?_
          exact W.iret (v := om_signs) hx hb hr (fun t ht hW => ⟨_, rfl, by unfold f_X7_count; rw [if_neg c1, if_neg c2, if_neg c3, if_pos c4] <;> rfl, ht⟩) (fun q hq => by cases hq) dX7_count_57
        · refine lv_tableOut (tgt := 58) hx hb dX7_count_1 (by have q0 := ne_t c1 (z := 0) (by decide); have q1 := ne_t c2 (z := 1) (by decide); have q2 := ne_t c3 (z := 2) (by decide); have q3 := ne_t c4 (z := 3) (by decide); omega) (by decide) ?_
          refine lv_bipush (v := (-2 : Int32)) hx hb dX7_count_58 (by decide) ?_
          exact W.iret (v := (-2 : Int32)) hx hb hr (fun t ht hW => ⟨_, rfl, by unfold f_X7_count; rw [if_neg c1, if_neg c2, if_neg c3, if_neg c4] <;> rfl, ht⟩) (fun q hq => by cases hq) dX7_count_60
def f_X7_isTape (t : Int32) : Int32 :=
  (f_X7_in ((t).toInt64) (0 : Int64) (5 : Int64))
set_option maxHeartbeats 4000000 in
set_option maxRecDepth 100000 in
theorem c_X7_isTape (l : Launch) (D : va_G) (cy : Nat → ClassId) (t : Int32) : RoI l D cy yX7_isTape (.code yX7_isTape cX7_isTape 1 (some .boolean)) 1 ([]) [.int t] (f_X7_isTape t) := by
  refine Met.ofW (cc := cX7_isTape) (maxL := 1) (ret := (some .boolean)) (by decide) rfl ?_
  intro pP eE s0 mM args below meth cC s₁ B hml hv
  obtain ⟨rfl, hP, hKX⟩ := hv
  have hx := B.exec
  have hb := B.bytes
  have hr := B.returns
  have hG := gw_hts (atoms_spec (ws := _) B.pre)
  have hown : s0.vm.findClass RX7 = some mM.cls := findClass_of_methodNamed B.named
  have hlocks := B.notSynchronized
  have hl := lv_entry ([.int t]) (n := 1) (Nat.le_of_ble_eq_true rfl)
  rw [lg_entry_eq]
  generalize (lg_sl ([.int t]) ++ List.replicate (1 - (lg_sl ([.int t])).length) Slot.unset).toArray = ls at hl ⊢
  have hl : lv_has ls 1 [(0, .int t)] := hl
  refine lv_iload_n hx hb dX7_isTape_0 rfl (lv_at hl 0 rfl) ?_
  refine lv_i2l (v := ((t).toInt64)) hx hb dX7_isTape_1 rfl ?_
  refine lv_lconst (v := (0 : Int64)) hx hb dX7_isTape_2 (by decide) ?_
  refine lv_ldc2 (v := (5 : Int64)) hx hb hown (hG _ mw32_7) dX7_isTape_3 ?_
  refine cRoS mw7_3 mw7_4 mw1_5 mw7_5 hd_X7_in hx hb hml hown hG hKX (c_X7_in l D cy ((t).toInt64) (0 : Int64) (5 : Int64)) ⟨Nat.le_of_ble_eq_true rfl, Nat.le_of_ble_eq_true rfl⟩ ⟨Nat.zero_le _, Nat.zero_le _⟩ hP rfl hl.1 rfl (Nat.le_of_ble_eq_true rfl) dX7_isTape_6 ?_
  exact W.zret (v := (f_X7_in ((t).toInt64) (0 : Int64) (5 : Int64))) hx hb hr (in_zr _ _ _) (fun t ht hW => ⟨_, rfl, by unfold f_X7_isTape; rfl, ht⟩) (fun q hq => by cases hq) dX7_isTape_9
