theorem copies_sa {f g : Nat → Int32} : ∀ k, k < 85 → f_X7_copiessa f g k = f k := fun k hk => (copies_at (f := f) (fun _ _ => rfl) 85 k).trans (if_pos hk)
theorem copies_as {f g : Nat → Int32} : ∀ k, k < 85 → f_X7_copiesas f g k = g k := fun k hk => (copies_at (f := g) (fun _ _ => rfl) 85 k).trans (if_pos hk)
theorem copies_sk {f g : Nat → Int32} : ∀ k, k < 85 → f_X7_copiessk f g k = f k := fun k hk => (copies_at (f := f) (fun _ _ => rfl) 85 k).trans (if_pos hk)
theorem copies_ks {f g : Nat → Int32} : ∀ k, k < 85 → f_X7_copiesks f g k = g k := fun k hk => (copies_at (f := g) (fun _ _ => rfl) 85 k).trans (if_pos hk)
def bd_X7_goes_44 (v : Int32) (k44 : Nat) (z44 : (Nat → Int32)) : (Nat → Int32) :=
  upd z44 (17 + k44) v
def f_X7_goes (om_s : Nat → Int32) (what : Int32) (v : Int32) (n : Nat) (vj : Nat) : (Nat → Int32) :=
  if what = (0 : Int32) then (upd om_s 1 v) else (if (3 : Int32) ≤ what then (itr (bd_X7_goes_44 v) n om_s) else (if what = (1 : Int32) then (upd om_s (11 + vj) (0 : Int32)) else (upd om_s (29 + vj) (0 : Int32))))
theorem goes_in {v : Int32} : ∀ (k : Nat), k ≤ 6 → ∀ f : Nat → Int32, itr (bd_X7_goes_44 v) k f 0 = f 0
  | 0, _, f => rfl
  | k + 1, hk, f => by
    rw [itr_succ]
    unfold bd_X7_goes_44
    rw [pk_un (by omega)]
    exact goes_in k (by omega) f

set_option maxHeartbeats 4000000 in
set_option maxRecDepth 100000 in
theorem c_X7_goes (l : Launch) (D : va_G) (cy : Nat → ClassId) (om : Nat → Nat) (om_thrown : Int32) (om_s : Nat → Int32) (om_kept : Nat → Int32) (om_aside : Nat → Int32) (om_isKept : Int32) (om_reaches : Nat → Int32) (om_ringOf : Nat → Int32) (om_rungOf : Nat → Int32) (om_rings : Nat → Int32) (om_ringMany : Int32) (om_paid : Nat → Int32) (om_leftOf : Nat → Int32) (om_ringPaid : Nat → Int32) (om_paidAll : Int32) (om_mosts : Nat → Int32) (om_text : Nat → Int32) (om_signs : Int32) (om_at : Int32) (om_isWrong : Int32) (om_clauses : Int32) (om_letters : Nat → Int32) (om_one : Nat → Int32) (om_two : Nat → Int32) (om_three : Nat → Int32) (om_whys : Nat → Int32) (om_backs : Nat → Int32) (om_sorts : Nat → Int32) (om_sizes : Nat → Int32) (om_items : Nat → Int64) (what : Int32) (v : Int32) (n : Nat) (vj : Nat) (hn : n ≤ 6) (hs0 : om_s 0 = nI n) (hgo : ¬ what = 0 → ¬ 3 ≤ what → v = nI vj ∧ vj < 6) : RwV (S := (Nat → Int32)) l D cy yX7_goes (.code yX7_goes cX7_goes 4 none) 0 (wX7 cy om om_thrown om_s om_kept om_aside om_isKept om_reaches om_ringOf om_rungOf om_rings om_ringMany om_paid om_leftOf om_ringPaid om_paidAll om_mosts om_text om_signs om_at om_isWrong om_clauses om_letters om_one om_two om_three om_whys om_backs om_sorts om_sizes om_items) [.ref (om 0), .int what, .int v] (fun u => u = f_X7_goes om_s what v n vj) (fun u => wX7 cy om om_thrown u om_kept om_aside om_isKept om_reaches om_ringOf om_rungOf om_rings om_ringMany om_paid om_leftOf om_ringPaid om_paidAll om_mosts om_text om_signs om_at om_isWrong om_clauses om_letters om_one om_two om_three om_whys om_backs om_sorts om_sizes om_items) := by
  intro sz
  refine Met.ofW (cc := cX7_goes) (maxL := 4) (ret := none) (by decide) rfl ?_
  intro pP eE s0 mM args below meth cC s₁ B hml hv
  obtain ⟨rfl, hsz, hP, hKX, hD0⟩ := hv
  have hx := B.exec
  have hb := B.bytes
  have hr := B.returns
  have hG := gw_hts (atoms_spec (ws := _) B.pre)
  have hown : s0.vm.findClass RX7 = some mM.cls := findClass_of_methodNamed B.named
  have hlocks := B.notSynchronized
  subst hsz
  have hD := hD0.self (sz := s0.heap.size)
  generalize hAe : va_A (wX7 cy om om_thrown om_s om_kept om_aside om_isKept om_reaches om_ringOf om_rungOf om_rings om_ringMany om_paid om_leftOf om_ringPaid om_paidAll om_mosts om_text om_signs om_at om_isWrong om_clauses om_letters om_one om_two om_three om_whys om_backs om_sorts om_sizes om_items) s0.heap.size = A at hD ⊢
  have hA : ∀ q : Nat, s0.heap.size ≤ q → A q := fun q h => by rw [← hAe]; exact Or.inr h
  have hS : va_S A s0.heap s0.heap [] := va_S.rf
  have hl := lv_entry ([.ref (om 0), .int what, .int v]) (n := 4) (Nat.le_of_ble_eq_true rfl)
  rw [lg_entry_eq]
  generalize (lg_sl ([.ref (om 0), .int what, .int v]) ++ List.replicate (4 - (lg_sl ([.ref (om 0), .int what, .int v])).length) Slot.unset).toArray = ls at hl ⊢
  have hl : lv_has ls 4 [(0, .ref (om 0)), (1, .int what), (2, .int v)] := hl
  refine lv_iload_n hx hb dX7_goes_0 rfl (lv_at hl 1 rfl) ?_
  refine lv_if_ne (tgt := 14) hx hb dX7_goes_1 (by decide) (fun c1 => ?_) (fun c1 => ?_)
  · refine lv_iload_n hx hb dX7_goes_14 rfl (lv_at hl 1 rfl) ?_
    refine lv_iconst (v := (3 : Int32)) hx hb dX7_goes_15 (by decide) ?_
    refine lv_icmp_ge (tgt := 42) hx hb dX7_goes_16 (by decide) (fun c2 => ?_) (fun c2 => ?_)
    · refine lv_iconst (v := (0 : Int32)) hx hb dX7_goes_42 (by decide) ?_
      refine lv_istore_n (lv' := [(3, .int (0 : Int32)), (0, .ref (om 0)), (1, .int what), (2, .int v)]) hx hb dX7_goes_43 rfl hl (by decide) rfl (fun ls hl => ?_)
      refine loopW (bd_X7_goes_44 v) om_s n (fun k44 z44 => [(3, .int (nI k44)), (0, .ref (om 0)), (1, .int what), (2, .int v)]) (fun k44 z44 => wX7 cy om om_thrown z44 om_kept om_aside om_isKept om_reaches om_ringOf om_rungOf om_rings om_ringMany om_paid om_leftOf om_ringPaid om_paidAll om_mosts om_text om_signs om_at om_isWrong om_clauses om_letters om_one om_two om_three om_whys om_backs om_sorts om_sizes om_items) hP hD hS (lv_sub hl [0, 1, 2, 3] rfl) (fun k44 z44 H locs ls hk44 hz44 hP hD hS hl ih44 => ?_)
      have hz0 : z44 0 = nI n := by rw [hz44]; exact (goes_in k44 (by omega) om_s).trans hs0
      refine lv_iload_n hx hb dX7_goes_44 rfl (lv_at hl 0 rfl) ?_
      refine lv_aload_n hx hb dX7_goes_45 rfl (lv_at hl 1 rfl) ?_
      refine gf_X7_15 hx hb hG hown hKX hP 0 rfl rfl dX7_goes_46 ?_
      refine lv_iconst (v := (0 : Int32)) hx hb dX7_goes_49 (by decide) ?_
      refine iald_v hx hb hKX hP 1 rfl rfl (by decide) (by decide) hz0 dX7_goes_50 ?_
      refine lv_icmp_ge (tgt := 70) hx hb dX7_goes_51 (by decide) (fun c3 => ?_) (fun c3 => ?_)
      · have e_k44 : n = k44 := Nat.le_antisymm ((le_n (N := n) (k := k44) rfl (by omega) (by omega)).mp c3) hk44
        subst e_k44
        exact W.vret hx hb hr (fun t ht hW => ⟨⟨z44, rfl, by subst hz44; unfold f_X7_goes; rw [if_neg c1, if_pos c2] <;> rfl, by rw [ht]; exact hP, hD⟩, hS.F ht⟩) hS.2.2 dX7_goes_70
      · have hlt44 : k44 < n := Nat.lt_of_not_le (fun qq_ => c3 ((le_n (N := n) (k := k44) rfl (by omega) (by omega)).mpr qq_))
        refine lv_aload_n hx hb dX7_goes_54 rfl (lv_at hl 1 rfl) ?_
        refine gf_X7_15 hx hb hG hown hKX hP 0 rfl rfl dX7_goes_55 ?_
        refine lv_bipush (v := (17 : Int32)) hx hb dX7_goes_58 (by decide) ?_
        refine lv_iload_n hx hb dX7_goes_60 rfl (lv_at hl 0 rfl) ?_
        refine lv_iadd hx hb dX7_goes_61 ?_
        refine topi_eq (y := nI (17 + k44)) (aN rfl rfl) ?_
        refine lv_iload_n hx hb dX7_goes_62 rfl (lv_at hl 3 rfl) ?_
        refine iast_n hx hb hKX hP hD hS 1 rfl rfl (by omega) (by decide) dX7_goes_63 (fun H locs hP hD hS => ?_)
        have hP : va_P D vwCl (wX7 cy om om_thrown (upd z44 (17 + k44) v) om_kept om_aside om_isKept om_reaches om_ringOf om_rungOf om_rings om_ringMany om_paid om_leftOf om_ringPaid om_paidAll om_mosts om_text om_signs om_at om_isWrong om_clauses om_letters om_one om_two om_three om_whys om_backs om_sorts om_sizes om_items) H := hP
        have hD : va_D A (wX7 cy om om_thrown (upd z44 (17 + k44) v) om_kept om_aside om_isKept om_reaches om_ringOf om_rungOf om_rings om_ringMany om_paid om_leftOf om_ringPaid om_paidAll om_mosts om_text om_signs om_at om_isWrong om_clauses om_letters om_one om_two om_three om_whys om_backs om_sorts om_sizes om_items) := hD
        refine lv_iinc (v := nI (k44 + 1)) (lv' := [(3, .int (nI (k44 + 1))), (0, .ref (om 0)), (1, .int what), (2, .int v)]) hx hb dX7_goes_64 hl (k := 0) rfl (nI_1 _) (by decide) rfl (fun ls hl => ?_)
        refine lv_goto (tgt := 44) hx hb dX7_goes_67 (by decide) ?_
        exact ih44 (upd z44 (17 + k44) v) _ _ _ hlt44 (by unfold bd_X7_goes_44; rfl) hP hD hS (lv_sub hl [0, 1, 2, 3] rfl)
    · refine lv_aload_n hx hb dX7_goes_19 rfl (lv_at hl 0 rfl) ?_
      refine gf_X7_15 hx hb hG hown hKX hP 0 rfl rfl dX7_goes_20 ?_
      refine lv_iload_n hx hb dX7_goes_23 rfl (lv_at hl 1 rfl) ?_
      refine lv_iconst (v := (1 : Int32)) hx hb dX7_goes_24 (by decide) ?_
      refine lv_icmp_ne (tgt := 33) hx hb dX7_goes_25 (by decide) (fun c4 => ?_) (fun c4 => ?_)
      · refine lv_bipush (v := (29 : Int32)) hx hb dX7_goes_33 (by decide) ?_
        refine lv_iload_n hx hb dX7_goes_35 rfl (lv_at hl 2 rfl) ?_
        refine topi_eq (y := nI vj) (hgo c1 c2).1 ?_
        have hvj6 := (hgo c1 c2).2
        refine lv_iadd hx hb dX7_goes_36 ?_
        refine topi_eq (y := nI (29 + vj)) (aN rfl rfl) ?_
        refine lv_iconst (v := (0 : Int32)) hx hb dX7_goes_37 (by decide) ?_
        refine iast_n hx hb hKX hP hD hS 1 rfl rfl (by omega) (by decide) dX7_goes_38 (fun H locs hP hD hS => ?_)
        have hP : va_P D vwCl (wX7 cy om om_thrown (upd om_s (29 + vj) (0 : Int32)) om_kept om_aside om_isKept om_reaches om_ringOf om_rungOf om_rings om_ringMany om_paid om_leftOf om_ringPaid om_paidAll om_mosts om_text om_signs om_at om_isWrong om_clauses om_letters om_one om_two om_three om_whys om_backs om_sorts om_sizes om_items) H := hP
        have hD : va_D A (wX7 cy om om_thrown (upd om_s (29 + vj) (0 : Int32)) om_kept om_aside om_isKept om_reaches om_ringOf om_rungOf om_rings om_ringMany om_paid om_leftOf om_ringPaid om_paidAll om_mosts om_text om_signs om_at om_isWrong om_clauses om_letters om_one om_two om_three om_whys om_backs om_sorts om_sizes om_items) := hD
        refine lv_goto (tgt := 70) hx hb dX7_goes_39 (by decide) ?_
        exact W.vret hx hb hr (fun t ht hW => ⟨⟨upd om_s (29 + vj) (0 : Int32), rfl, by unfold f_X7_goes; rw [if_neg c1, if_neg c2, if_neg c4] <;> rfl, by rw [ht]; exact hP, hD⟩, hS.F ht⟩) hS.2.2 dX7_goes_70
      · refine lv_bipush (v := (11 : Int32)) hx hb dX7_goes_28 (by decide) ?_
        refine lv_goto (tgt := 35) hx hb dX7_goes_30 (by decide) ?_
        refine lv_iload_n hx hb dX7_goes_35 rfl (lv_at hl 2 rfl) ?_
        refine topi_eq (y := nI vj) (hgo c1 c2).1 ?_
        have hvj6 := (hgo c1 c2).2
        refine lv_iadd hx hb dX7_goes_36 ?_
        refine topi_eq (y := nI (11 + vj)) (aN rfl rfl) ?_
        refine lv_iconst (v := (0 : Int32)) hx hb dX7_goes_37 (by decide) ?_
        refine iast_n hx hb hKX hP hD hS 1 rfl rfl (by omega) (by decide) dX7_goes_38 (fun H locs hP hD hS => ?_)
        have hP : va_P D vwCl (wX7 cy om om_thrown (upd om_s (11 + vj) (0 : Int32)) om_kept om_aside om_isKept om_reaches om_ringOf om_rungOf om_rings om_ringMany om_paid om_leftOf om_ringPaid om_paidAll om_mosts om_text om_signs om_at om_isWrong om_clauses om_letters om_one om_two om_three om_whys om_backs om_sorts om_sizes om_items) H := hP
        have hD : va_D A (wX7 cy om om_thrown (upd om_s (11 + vj) (0 : Int32)) om_kept om_aside om_isKept om_reaches om_ringOf om_rungOf om_rings om_ringMany om_paid om_leftOf om_ringPaid om_paidAll om_mosts om_text om_signs om_at om_isWrong om_clauses om_letters om_one om_two om_three om_whys om_backs om_sorts om_sizes om_items) := hD
        refine lv_goto (tgt := 70) hx hb dX7_goes_39 (by decide) ?_
        exact W.vret hx hb hr (fun t ht hW => ⟨⟨upd om_s (11 + vj) (0 : Int32), rfl, by unfold f_X7_goes; rw [if_neg c1, if_neg c2, if_pos c4] <;> rfl, by rw [ht]; exact hP, hD⟩, hS.F ht⟩) hS.2.2 dX7_goes_70
  · refine lv_aload_n hx hb dX7_goes_4 rfl (lv_at hl 0 rfl) ?_
    refine gf_X7_15 hx hb hG hown hKX hP 0 rfl rfl dX7_goes_5 ?_
    refine lv_iconst (v := (1 : Int32)) hx hb dX7_goes_8 (by decide) ?_
    refine lv_iload_n hx hb dX7_goes_9 rfl (lv_at hl 2 rfl) ?_
    refine iast_n hx hb hKX hP hD hS 1 rfl rfl (by decide) (by decide) dX7_goes_10 (fun H locs hP hD hS => ?_)
    have hP : va_P D vwCl (wX7 cy om om_thrown (upd om_s 1 v) om_kept om_aside om_isKept om_reaches om_ringOf om_rungOf om_rings om_ringMany om_paid om_leftOf om_ringPaid om_paidAll om_mosts om_text om_signs om_at om_isWrong om_clauses om_letters om_one om_two om_three om_whys om_backs om_sorts om_sizes om_items) H := hP
    have hD : va_D A (wX7 cy om om_thrown (upd om_s 1 v) om_kept om_aside om_isKept om_reaches om_ringOf om_rungOf om_rings om_ringMany om_paid om_leftOf om_ringPaid om_paidAll om_mosts om_text om_signs om_at om_isWrong om_clauses om_letters om_one om_two om_three om_whys om_backs om_sorts om_sizes om_items) := hD
    refine lv_goto (tgt := 70) hx hb dX7_goes_11 (by decide) ?_
    exact W.vret hx hb hr (fun t ht hW => ⟨⟨upd om_s 1 v, rfl, by unfold f_X7_goes; rw [if_pos c1] <;> rfl, by rw [ht]; exact hP, hD⟩, hS.F ht⟩) hS.2.2 dX7_goes_70
theorem goes_s0 {f : Nat → Int32} {w v : Int32} {n vj : Nat} : ∀ j : Nat, (j = 0 ∨ (1 < j ∧ j < 11) ∨ 34 < j) → (¬ w = 0 → ¬ 3 ≤ w → vj < 6) → n ≤ 6 → f_X7_goes f w v n vj j = f j := by
  intro j hj hv hn
  unfold f_X7_goes
  by_cases c1 : w = 0
  · rw [if_pos c1]; exact pk_un (by omega)
  · rw [if_neg c1]
    by_cases c2 : (3 : Int32) ≤ w
    · rw [if_pos c2]
      have key : ∀ k, k ≤ 6 → itr (bd_X7_goes_44 v) k f j = f j := by
        intro k
        induction k with
        | zero => intro _; rfl
        | succ k ih =>
          intro hk
          rw [itr_succ]
          unfold bd_X7_goes_44
          rw [pk_un (by omega)]
          exact ih (by omega)
      exact key n hn
    · rw [if_neg c2]
      have h6 := hv c1 c2
      by_cases c3 : w = 1
      · rw [if_pos c3]; exact pk_un (by omega)
      · rw [if_neg c3]; exact pk_un (by omega)
def bd_X7_ends_27 (n : Nat) (u22 : (Nat → Int32)) (k27 : Nat) (z27 : (Nat → Int32)) : (Nat → Int32) :=
  (f_X7_goes z27 (u22 (45 + k27)) (u22 (53 + k27)) n ((u22 (53 + k27)).toNatClampNeg))
def f_X7_ends (om_s : Nat → Int32) (om_aside : Nat → Int32) (om_reaches : Nat → Int32) (om_ringOf : Nat → Int32) (om_rungOf : Nat → Int32) (om_rings : Nat → Int32) (om_paid : Nat → Int32) (om_leftOf : Nat → Int32) (om_ringPaid : Nat → Int32) (om_paidAll : Int32) (om_mosts : Nat → Int32) (what : Int32) (n : Nat) (r : Nat) (q : Nat) : Int32 × (Nat → Int32) × (Nat → Int32) × (Nat → Int32) × (Nat → Int32) × (Nat → Int32) × (Nat → Int32) × Nat × (Nat → Int32) × (Nat → Int32) × (Nat → Int32) × Int32 × (Nat → Int32) :=
  if (f_X7_in ((what).toInt64) (0 : Int64) (2 : Int64)) = (0 : Int32) then ((-1 : Int32), (om_s, om_aside, om_reaches, om_ringOf, om_rungOf, om_rings, r, om_paid, om_leftOf, om_ringPaid, om_paidAll, om_mosts)) else (if what = (0 : Int32) then ((f_X7_pay (itr (bd_X7_ends_27 n (f_X7_copiessa om_s om_aside)) q om_s) om_reaches om_ringOf om_rungOf om_rings om_paid om_leftOf om_ringPaid om_mosts n).2.2.2.2.2.2.2.2.1, ((f_X7_copiesas (itr (bd_X7_ends_27 n (f_X7_copiessa om_s om_aside)) q om_s) (f_X7_copiessa om_s om_aside)), (f_X7_copiessa om_s om_aside), (f_X7_pay (itr (bd_X7_ends_27 n (f_X7_copiessa om_s om_aside)) q om_s) om_reaches om_ringOf om_rungOf om_rings om_paid om_leftOf om_ringPaid om_mosts n).1, (f_X7_pay (itr (bd_X7_ends_27 n (f_X7_copiessa om_s om_aside)) q om_s) om_reaches om_ringOf om_rungOf om_rings om_paid om_leftOf om_ringPaid om_mosts n).2.1, (f_X7_pay (itr (bd_X7_ends_27 n (f_X7_copiessa om_s om_aside)) q om_s) om_reaches om_ringOf om_rungOf om_rings om_paid om_leftOf om_ringPaid om_mosts n).2.2.1, (f_X7_pay (itr (bd_X7_ends_27 n (f_X7_copiessa om_s om_aside)) q om_s) om_reaches om_ringOf om_rungOf om_rings om_paid om_leftOf om_ringPaid om_mosts n).2.2.2.1, (f_X7_pay (itr (bd_X7_ends_27 n (f_X7_copiessa om_s om_aside)) q om_s) om_reaches om_ringOf om_rungOf om_rings om_paid om_leftOf om_ringPaid om_mosts n).2.2.2.2.1, (f_X7_pay (itr (bd_X7_ends_27 n (f_X7_copiessa om_s om_aside)) q om_s) om_reaches om_ringOf om_rungOf om_rings om_paid om_leftOf om_ringPaid om_mosts n).2.2.2.2.2.1, (f_X7_pay (itr (bd_X7_ends_27 n (f_X7_copiessa om_s om_aside)) q om_s) om_reaches om_ringOf om_rungOf om_rings om_paid om_leftOf om_ringPaid om_mosts n).2.2.2.2.2.2.1, (f_X7_pay (itr (bd_X7_ends_27 n (f_X7_copiessa om_s om_aside)) q om_s) om_reaches om_ringOf om_rungOf om_rings om_paid om_leftOf om_ringPaid om_mosts n).2.2.2.2.2.2.2.1, (f_X7_pay (itr (bd_X7_ends_27 n (f_X7_copiessa om_s om_aside)) q om_s) om_reaches om_ringOf om_rungOf om_rings om_paid om_leftOf om_ringPaid om_mosts n).2.2.2.2.2.2.2.2.1, (f_X7_pay (itr (bd_X7_ends_27 n (f_X7_copiessa om_s om_aside)) q om_s) om_reaches om_ringOf om_rungOf om_rings om_paid om_leftOf om_ringPaid om_mosts n).2.2.2.2.2.2.2.2.2)) else (if what = (1 : Int32) then ((((itr (bd_X7_ends_27 n (f_X7_copiessa om_s om_aside)) q om_s) 1) - (f_X7_pay (itr (bd_X7_ends_27 n (f_X7_copiessa om_s om_aside)) q om_s) om_reaches om_ringOf om_rungOf om_rings om_paid om_leftOf om_ringPaid om_mosts n).2.2.2.2.2.2.2.2.1), ((f_X7_copiesas (itr (bd_X7_ends_27 n (f_X7_copiessa om_s om_aside)) q om_s) (f_X7_copiessa om_s om_aside)), (f_X7_copiessa om_s om_aside), (f_X7_pay (itr (bd_X7_ends_27 n (f_X7_copiessa om_s om_aside)) q om_s) om_reaches om_ringOf om_rungOf om_rings om_paid om_leftOf om_ringPaid om_mosts n).1, (f_X7_pay (itr (bd_X7_ends_27 n (f_X7_copiessa om_s om_aside)) q om_s) om_reaches om_ringOf om_rungOf om_rings om_paid om_leftOf om_ringPaid om_mosts n).2.1, (f_X7_pay (itr (bd_X7_ends_27 n (f_X7_copiessa om_s om_aside)) q om_s) om_reaches om_ringOf om_rungOf om_rings om_paid om_leftOf om_ringPaid om_mosts n).2.2.1, (f_X7_pay (itr (bd_X7_ends_27 n (f_X7_copiessa om_s om_aside)) q om_s) om_reaches om_ringOf om_rungOf om_rings om_paid om_leftOf om_ringPaid om_mosts n).2.2.2.1, (f_X7_pay (itr (bd_X7_ends_27 n (f_X7_copiessa om_s om_aside)) q om_s) om_reaches om_ringOf om_rungOf om_rings om_paid om_leftOf om_ringPaid om_mosts n).2.2.2.2.1, (f_X7_pay (itr (bd_X7_ends_27 n (f_X7_copiessa om_s om_aside)) q om_s) om_reaches om_ringOf om_rungOf om_rings om_paid om_leftOf om_ringPaid om_mosts n).2.2.2.2.2.1, (f_X7_pay (itr (bd_X7_ends_27 n (f_X7_copiessa om_s om_aside)) q om_s) om_reaches om_ringOf om_rungOf om_rings om_paid om_leftOf om_ringPaid om_mosts n).2.2.2.2.2.2.1, (f_X7_pay (itr (bd_X7_ends_27 n (f_X7_copiessa om_s om_aside)) q om_s) om_reaches om_ringOf om_rungOf om_rings om_paid om_leftOf om_ringPaid om_mosts n).2.2.2.2.2.2.2.1, (f_X7_pay (itr (bd_X7_ends_27 n (f_X7_copiessa om_s om_aside)) q om_s) om_reaches om_ringOf om_rungOf om_rings om_paid om_leftOf om_ringPaid om_mosts n).2.2.2.2.2.2.2.2.1, (f_X7_pay (itr (bd_X7_ends_27 n (f_X7_copiessa om_s om_aside)) q om_s) om_reaches om_ringOf om_rungOf om_rings om_paid om_leftOf om_ringPaid om_mosts n).2.2.2.2.2.2.2.2.2)) else (nI (f_X7_pay (itr (bd_X7_ends_27 n (f_X7_copiessa om_s om_aside)) q om_s) om_reaches om_ringOf om_rungOf om_rings om_paid om_leftOf om_ringPaid om_mosts n).2.2.2.2.1, ((f_X7_copiesas (itr (bd_X7_ends_27 n (f_X7_copiessa om_s om_aside)) q om_s) (f_X7_copiessa om_s om_aside)), (f_X7_copiessa om_s om_aside), (f_X7_pay (itr (bd_X7_ends_27 n (f_X7_copiessa om_s om_aside)) q om_s) om_reaches om_ringOf om_rungOf om_rings om_paid om_leftOf om_ringPaid om_mosts n).1, (f_X7_pay (itr (bd_X7_ends_27 n (f_X7_copiessa om_s om_aside)) q om_s) om_reaches om_ringOf om_rungOf om_rings om_paid om_leftOf om_ringPaid om_mosts n).2.1, (f_X7_pay (itr (bd_X7_ends_27 n (f_X7_copiessa om_s om_aside)) q om_s) om_reaches om_ringOf om_rungOf om_rings om_paid om_leftOf om_ringPaid om_mosts n).2.2.1, (f_X7_pay (itr (bd_X7_ends_27 n (f_X7_copiessa om_s om_aside)) q om_s) om_reaches om_ringOf om_rungOf om_rings om_paid om_leftOf om_ringPaid om_mosts n).2.2.2.1, (f_X7_pay (itr (bd_X7_ends_27 n (f_X7_copiessa om_s om_aside)) q om_s) om_reaches om_ringOf om_rungOf om_rings om_paid om_leftOf om_ringPaid om_mosts n).2.2.2.2.1, (f_X7_pay (itr (bd_X7_ends_27 n (f_X7_copiessa om_s om_aside)) q om_s) om_reaches om_ringOf om_rungOf om_rings om_paid om_leftOf om_ringPaid om_mosts n).2.2.2.2.2.1, (f_X7_pay (itr (bd_X7_ends_27 n (f_X7_copiessa om_s om_aside)) q om_s) om_reaches om_ringOf om_rungOf om_rings om_paid om_leftOf om_ringPaid om_mosts n).2.2.2.2.2.2.1, (f_X7_pay (itr (bd_X7_ends_27 n (f_X7_copiessa om_s om_aside)) q om_s) om_reaches om_ringOf om_rungOf om_rings om_paid om_leftOf om_ringPaid om_mosts n).2.2.2.2.2.2.2.1, (f_X7_pay (itr (bd_X7_ends_27 n (f_X7_copiessa om_s om_aside)) q om_s) om_reaches om_ringOf om_rungOf om_rings om_paid om_leftOf om_ringPaid om_mosts n).2.2.2.2.2.2.2.2.1, (f_X7_pay (itr (bd_X7_ends_27 n (f_X7_copiessa om_s om_aside)) q om_s) om_reaches om_ringOf om_rungOf om_rings om_paid om_leftOf om_ringPaid om_mosts n).2.2.2.2.2.2.2.2.2))))
theorem ends_s0 {A : Nat → Int32} {n q : Nat} (hn : n ≤ 6) (hp : ∀ k, k < q → ¬ A (45 + k) = 0 → ¬ 3 ≤ A (45 + k) → (A (53 + k)).toNatClampNeg < 6) : ∀ (k : Nat), k ≤ q → ∀ f : Nat → Int32, itr (bd_X7_ends_27 n A) k f 0 = f 0
  | 0, _, f => rfl
  | k + 1, hk, f => by
    rw [itr_succ]
    unfold bd_X7_ends_27
    rw [goes_s0 0 (Or.inl rfl) (hp k (by omega)) hn]
    exact ends_s0 hn hp k (by omega) f

set_option maxHeartbeats 4000000 in
set_option maxRecDepth 100000 in
theorem c_X7_ends (l : Launch) (D : va_G) (cy : Nat → ClassId) (om : Nat → Nat) (om_thrown : Int32) (om_s : Nat → Int32) (om_kept : Nat → Int32) (om_aside : Nat → Int32) (om_isKept : Int32) (om_reaches : Nat → Int32) (om_ringOf : Nat → Int32) (om_rungOf : Nat → Int32) (om_rings : Nat → Int32) (om_paid : Nat → Int32) (om_leftOf : Nat → Int32) (om_ringPaid : Nat → Int32) (om_paidAll : Int32) (om_mosts : Nat → Int32) (om_text : Nat → Int32) (om_signs : Int32) (om_at : Int32) (om_isWrong : Int32) (om_clauses : Int32) (om_letters : Nat → Int32) (om_one : Nat → Int32) (om_two : Nat → Int32) (om_three : Nat → Int32) (om_whys : Nat → Int32) (om_backs : Nat → Int32) (om_sorts : Nat → Int32) (om_sizes : Nat → Int32) (om_items : Nat → Int64) (what : Int32) (n : Nat) (r : Nat) (q : Nat) (hn : n ≤ 6) (hs0 : om_s 0 = nI n) (hs3 : om_s 3 = nI q) (hq : q ≤ 8) (hpl : ∀ k, k < q → ¬ om_s (45 + k) = 0 → ¬ 3 ≤ om_s (45 + k) → om_s (53 + k) = nI (om_s (53 + k)).toNatClampNeg ∧ (om_s (53 + k)).toNatClampNeg < 6) : RwI (S := (Nat → Int32) × (Nat → Int32) × (Nat → Int32) × (Nat → Int32) × (Nat → Int32) × (Nat → Int32) × Nat × (Nat → Int32) × (Nat → Int32) × (Nat → Int32) × Int32 × (Nat → Int32)) l D cy yX7_ends (.code yX7_ends cX7_ends 3 (some .int)) 5 (wX7 cy om om_thrown om_s om_kept om_aside om_isKept om_reaches om_ringOf om_rungOf om_rings (nI r) om_paid om_leftOf om_ringPaid om_paidAll om_mosts om_text om_signs om_at om_isWrong om_clauses om_letters om_one om_two om_three om_whys om_backs om_sorts om_sizes om_items) [.ref (om 0), .int what] (fun rr u => (rr, u) = f_X7_ends om_s om_aside om_reaches om_ringOf om_rungOf om_rings om_paid om_leftOf om_ringPaid om_paidAll om_mosts what n r q) (fun u => wX7 cy om om_thrown u.1 om_kept u.2.1 om_isKept u.2.2.1 u.2.2.2.1 u.2.2.2.2.1 u.2.2.2.2.2.1 (nI u.2.2.2.2.2.2.1) u.2.2.2.2.2.2.2.1 u.2.2.2.2.2.2.2.2.1 u.2.2.2.2.2.2.2.2.2.1 u.2.2.2.2.2.2.2.2.2.2.1 u.2.2.2.2.2.2.2.2.2.2.2 om_text om_signs om_at om_isWrong om_clauses om_letters om_one om_two om_three om_whys om_backs om_sorts om_sizes om_items) := by
  intro sz
  refine Met.ofW (cc := cX7_ends) (maxL := 3) (ret := (some .int)) (by decide) rfl ?_
  intro pP eE s0 mM args below meth cC s₁ B hml hv
  obtain ⟨rfl, hsz, hP, hKX, hD0⟩ := hv
  have hx := B.exec
  have hb := B.bytes
  have hr := B.returns
  have hG := gw_hts (atoms_spec (ws := _) B.pre)
  have hown : s0.vm.findClass RX7 = some mM.cls := findClass_of_methodNamed B.named
  have hlocks := B.notSynchronized
  subst hsz
  have hD := hD0.self (sz := s0.heap.size)
  generalize hAe : va_A (wX7 cy om om_thrown om_s om_kept om_aside om_isKept om_reaches om_ringOf om_rungOf om_rings (nI r) om_paid om_leftOf om_ringPaid om_paidAll om_mosts om_text om_signs om_at om_isWrong om_clauses om_letters om_one om_two om_three om_whys om_backs om_sorts om_sizes om_items) s0.heap.size = A at hD ⊢
  have hA : ∀ q : Nat, s0.heap.size ≤ q → A q := fun q h => by rw [← hAe]; exact Or.inr h
  have hS : va_S A s0.heap s0.heap [] := va_S.rf
  have hl := lv_entry ([.ref (om 0), .int what]) (n := 3) (Nat.le_of_ble_eq_true rfl)
  rw [lg_entry_eq]
  generalize (lg_sl ([.ref (om 0), .int what]) ++ List.replicate (3 - (lg_sl ([.ref (om 0), .int what])).length) Slot.unset).toArray = ls at hl ⊢
  have hl : lv_has ls 3 [(0, .ref (om 0)), (1, .int what)] := hl
  refine lv_iload_n hx hb dX7_ends_0 rfl (lv_at hl 1 rfl) ?_
  refine lv_i2l (v := ((what).toInt64)) hx hb dX7_ends_1 rfl ?_
  refine lv_lconst (v := (0 : Int64)) hx hb dX7_ends_2 (by decide) ?_
  refine lv_ldc2 (v := (2 : Int64)) hx hb hown (hG _ mw29_8) dX7_ends_3 ?_
  refine cRoS mw7_3 mw7_4 mw1_5 mw7_5 hd_X7_in hx hb hml hown hG hKX (c_X7_in l D cy ((what).toInt64) (0 : Int64) (2 : Int64)) ⟨Nat.le_of_ble_eq_true rfl, Nat.le_of_ble_eq_true rfl⟩ ⟨Nat.zero_le _, Nat.zero_le _⟩ (hP.sub [] rfl) rfl hl.1 rfl (Nat.le_of_ble_eq_true rfl) dX7_ends_6 ?_
  refine lv_if_ne (tgt := 14) hx hb dX7_ends_9 (by decide) (fun c1 => ?_) (fun c1 => ?_)
  · refine lv_aload_n hx hb dX7_ends_14 rfl (lv_at hl 0 rfl) ?_
    refine gf_X7_15 hx hb hG hown hKX hP 0 rfl rfl dX7_ends_15 ?_
    refine lv_aload_n hx hb dX7_ends_18 rfl (lv_at hl 0 rfl) ?_
    refine gf_X7_22 hx hb hG hown hKX hP 0 rfl rfl dX7_ends_19 ?_
    refine cRwSV mw30_10 mw30_11 mw1_5 mw30_12 hd_X7_copies hx hb hml hown hG hKX (c_X7_copiessa l D cy om om_thrown om_s om_kept om_aside om_isKept om_reaches om_ringOf om_rungOf om_rings (nI r) om_paid om_leftOf om_ringPaid om_paidAll om_mosts om_text om_signs om_at om_isWrong om_clauses om_letters om_one om_two om_three om_whys om_backs om_sorts om_sizes om_items) ⟨Nat.le_of_ble_eq_true rfl, Nat.le_of_ble_eq_true rfl⟩ ⟨Nat.zero_le _, Nat.zero_le _⟩ hP hD hS hA [0, 1, 2, 3, 4, 5, 6, 7, 8, 9, 10, 11, 12, 13, 14, 15, 16, 17, 18, 19, 20, 21] [] [0, 1, 2, 3, 4, 5, 6, 7, 8, 9, 10, 11, 12, 13, 14, 15, 16, 17, 18, 19, 20, 21] (wr := []) (wn := fun u22 => wX7 cy om om_thrown om_s om_kept u22 om_isKept om_reaches om_ringOf om_rungOf om_rings (nI r) om_paid om_leftOf om_ringPaid om_paidAll om_mosts om_text om_signs om_at om_isWrong om_clauses om_letters om_one om_two om_three om_whys om_backs om_sorts om_sizes om_items) rfl (by decide) rfl (by decide) (by decide) (fun _ => rfl) (by decide) rfl hl.1 rfl (Nat.le_of_ble_eq_true rfl) dX7_ends_22 (fun u22 H locs hw22 hP hD hS => ?_)
    have hcp : ∀ k, k < 85 → u22 k = om_s k := by subst hw22; exact copies_sa
    have hpa : ∀ k, k < q → ¬ u22 (45 + k) = 0 → ¬ 3 ≤ u22 (45 + k) → u22 (53 + k) = nI (u22 (53 + k)).toNatClampNeg ∧ (u22 (53 + k)).toNatClampNeg < 6 := by intro k hk; rw [hcp (45 + k) (by omega), hcp (53 + k) (by omega)]; exact hpl k hk
    refine lv_iconst (v := (0 : Int32)) hx hb dX7_ends_25 (by decide) ?_
    refine lv_istore_n (lv' := [(2, .int (0 : Int32)), (0, .ref (om 0)), (1, .int what)]) hx hb dX7_ends_26 rfl hl (by decide) rfl (fun ls hl => ?_)
    refine loopW (bd_X7_ends_27 n u22) om_s q (fun k27 z27 => [(2, .int (nI k27)), (0, .ref (om 0)), (1, .int what)]) (fun k27 z27 => wX7 cy om om_thrown z27 om_kept u22 om_isKept om_reaches om_ringOf om_rungOf om_rings (nI r) om_paid om_leftOf om_ringPaid om_paidAll om_mosts om_text om_signs om_at om_isWrong om_clauses om_letters om_one om_two om_three om_whys om_backs om_sorts om_sizes om_items) hP hD hS (lv_sub hl [0, 1, 2] rfl) (fun k27 z27 H locs ls hk27 hz27 hP hD hS hl ih27 => ?_)
    refine lv_iload_n hx hb dX7_ends_27 rfl (lv_at hl 0 rfl) ?_
    refine lv_aload_n hx hb dX7_ends_28 rfl (lv_at hl 1 rfl) ?_
    refine gf_X7_22 hx hb hG hown hKX hP 0 rfl rfl dX7_ends_29 ?_
    refine lv_iconst (v := (3 : Int32)) hx hb dX7_ends_32 (by decide) ?_
    refine iald_v hx hb hKX hP 3 rfl rfl (by decide) (by decide) ((hcp 3 (by omega)).trans hs3) dX7_ends_33 ?_
    refine lv_icmp_ge (tgt := 65) hx hb dX7_ends_34 (by decide) (fun c2 => ?_) (fun c2 => ?_)
    · have e_k27 : q = k27 := Nat.le_antisymm ((le_n (N := q) (k := k27) rfl (by omega) (by omega)).mp c2) hk27
      subst e_k27
      have hz0 : z27 0 = nI n := by subst hz27; exact (ends_s0 hn (fun k hk h1 h2 => (hpa k hk h1 h2).2) q (Nat.le_refl q) om_s).trans hs0
      refine lv_aload_n hx hb dX7_ends_65 rfl (lv_at hl 1 rfl) ?_
      refine cRwVV (q0 := 0) (ci := 7) mw14_9 mw14_10 mw14_11 mw1_5 mw14_12 rfl rfl hd_X7_pay hx hb hml hown hG hKX (c_X7_pay l D cy om om_thrown z27 om_kept u22 om_isKept om_reaches om_ringOf om_rungOf om_rings (nI r) om_paid om_leftOf om_ringPaid om_paidAll om_mosts om_text om_signs om_at om_isWrong om_clauses om_letters om_one om_two om_three om_whys om_backs om_sorts om_sizes om_items n hn hz0) ⟨Nat.le_of_ble_eq_true rfl, Nat.le_of_ble_eq_true rfl⟩ ⟨Nat.zero_le _, Nat.zero_le _⟩ hP hD hS hA [0, 1, 2, 3, 4, 5, 6, 7, 8, 9, 10, 11, 12, 13, 14, 15, 16, 17, 18, 19, 20, 21] [] [0, 1, 2, 3, 4, 5, 6, 7, 8, 9, 10, 11, 12, 13, 14, 15, 16, 17, 18, 19, 20, 21] (wr := []) (wn := fun u66 => wX7 cy om om_thrown z27 om_kept u22 om_isKept u66.1 u66.2.1 u66.2.2.1 u66.2.2.2.1 (nI u66.2.2.2.2.1) u66.2.2.2.2.2.1 u66.2.2.2.2.2.2.1 u66.2.2.2.2.2.2.2.1 u66.2.2.2.2.2.2.2.2.1 u66.2.2.2.2.2.2.2.2.2 om_text om_signs om_at om_isWrong om_clauses om_letters om_one om_two om_three om_whys om_backs om_sorts om_sizes om_items) rfl (by decide) rfl (by decide) (by decide) (fun _ => rfl) (by decide) rfl rfl hl.1 rfl (Nat.le_of_ble_eq_true rfl) dX7_ends_66 (fun u66 H locs hw66 hP hD hS => ?_)
      refine lv_iload_n hx hb dX7_ends_69 rfl (lv_at hl 2 rfl) ?_
      refine lv_if_ne (tgt := 80) hx hb dX7_ends_70 (by decide) (fun c3 => ?_) (fun c3 => ?_)
      · refine lv_iload_n hx hb dX7_ends_80 rfl (lv_at hl 2 rfl) ?_
        refine lv_iconst (v := (1 : Int32)) hx hb dX7_ends_81 (by decide) ?_
        refine lv_icmp_ne (tgt := 99) hx hb dX7_ends_82 (by decide) (fun c4 => ?_) (fun c4 => ?_)
        · refine lv_aload_n hx hb dX7_ends_99 rfl (lv_at hl 1 rfl) ?_
          refine gf_X7_115 hx hb hG hown hKX hP 0 rfl rfl dX7_ends_100 ?_
          refine lv_istore_n (lv' := [(2, .int (nI u66.2.2.2.2.1)), (0, .ref (om 0)), (1, .int what)]) hx hb dX7_ends_103 rfl hl (by decide) rfl (fun ls hl => ?_)
          refine lv_aload_n hx hb dX7_ends_104 rfl (lv_at hl 1 rfl) ?_
          refine gf_X7_22 hx hb hG hown hKX hP 0 rfl rfl dX7_ends_105 ?_
          refine lv_aload_n hx hb dX7_ends_108 rfl (lv_at hl 1 rfl) ?_
          refine gf_X7_15 hx hb hG hown hKX hP 0 rfl rfl dX7_ends_109 ?_
          refine cRwSV mw30_10 mw30_11 mw1_5 mw30_12 hd_X7_copies hx hb hml hown hG hKX (c_X7_copiesas l D cy om om_thrown z27 om_kept u22 om_isKept u66.1 u66.2.1 u66.2.2.1 u66.2.2.2.1 (nI u66.2.2.2.2.1) u66.2.2.2.2.2.1 u66.2.2.2.2.2.2.1 u66.2.2.2.2.2.2.2.1 u66.2.2.2.2.2.2.2.2.1 u66.2.2.2.2.2.2.2.2.2 om_text om_signs om_at om_isWrong om_clauses om_letters om_one om_two om_three om_whys om_backs om_sorts om_sizes om_items) ⟨Nat.le_of_ble_eq_true rfl, Nat.le_of_ble_eq_true rfl⟩ ⟨Nat.zero_le _, Nat.zero_le _⟩ hP hD hS hA [0, 1, 2, 3, 4, 5, 6, 7, 8, 9, 10, 11, 12, 13, 14, 15, 16, 17, 18, 19, 20, 21] [] [0, 1, 2, 3, 4, 5, 6, 7, 8, 9, 10, 11, 12, 13, 14, 15, 16, 17, 18, 19, 20, 21] (wr := []) (wn := fun u112 => wX7 cy om om_thrown u112 om_kept u22 om_isKept u66.1 u66.2.1 u66.2.2.1 u66.2.2.2.1 (nI u66.2.2.2.2.1) u66.2.2.2.2.2.1 u66.2.2.2.2.2.2.1 u66.2.2.2.2.2.2.2.1 u66.2.2.2.2.2.2.2.2.1 u66.2.2.2.2.2.2.2.2.2 om_text om_signs om_at om_isWrong om_clauses om_letters om_one om_two om_three om_whys om_backs om_sorts om_sizes om_items) rfl (by decide) rfl (by decide) (by decide) (fun _ => rfl) (by decide) rfl hl.1 rfl (Nat.le_of_ble_eq_true rfl) dX7_ends_112 (fun u112 H locs hw112 hP hD hS => ?_)
          refine lv_iload_n hx hb dX7_ends_115 rfl (lv_at hl 0 rfl) ?_
          exact W.iret (v := nI u66.2.2.2.2.1) hx hb hr (fun t ht hW => ⟨⟨nI u66.2.2.2.2.1, (u112, u22, u66.1, u66.2.1, u66.2.2.1, u66.2.2.2.1, u66.2.2.2.2.1, u66.2.2.2.2.2.1, u66.2.2.2.2.2.2.1, u66.2.2.2.2.2.2.2.1, u66.2.2.2.2.2.2.2.2.1, u66.2.2.2.2.2.2.2.2.2), rfl, by subst hw112; subst hw66; subst hz27; subst hw22; unfold f_X7_ends; rw [if_neg c1, if_neg c3, if_neg c4] <;> rfl, by rw [ht]; exact hP, hD⟩, hS.F ht⟩) hS.2.2 dX7_ends_116
        · refine lv_aload_n hx hb dX7_ends_85 rfl (lv_at hl 1 rfl) ?_
          refine gf_X7_15 hx hb hG hown hKX hP 0 rfl rfl dX7_ends_86 ?_
          refine lv_iconst (v := (1 : Int32)) hx hb dX7_ends_89 (by decide) ?_
          refine iald_n hx hb hKX hP 1 rfl rfl (by decide) (by decide) dX7_ends_90 ?_
          refine lv_aload_n hx hb dX7_ends_91 rfl (lv_at hl 1 rfl) ?_
          refine gf_X7_142 hx hb hG hown hKX hP 0 rfl rfl dX7_ends_92 ?_
          refine lv_isub hx hb dX7_ends_95 ?_
          refine lv_goto (tgt := 103) hx hb dX7_ends_96 (by decide) ?_
          refine lv_istore_n (lv' := [(2, .int ((z27 1) - u66.2.2.2.2.2.2.2.2.1)), (0, .ref (om 0)), (1, .int what)]) hx hb dX7_ends_103 rfl hl (by decide) rfl (fun ls hl => ?_)
          refine lv_aload_n hx hb dX7_ends_104 rfl (lv_at hl 1 rfl) ?_
          refine gf_X7_22 hx hb hG hown hKX hP 0 rfl rfl dX7_ends_105 ?_
          refine lv_aload_n hx hb dX7_ends_108 rfl (lv_at hl 1 rfl) ?_
          refine gf_X7_15 hx hb hG hown hKX hP 0 rfl rfl dX7_ends_109 ?_
          refine cRwSV mw30_10 mw30_11 mw1_5 mw30_12 hd_X7_copies hx hb hml hown hG hKX (c_X7_copiesas l D cy om om_thrown z27 om_kept u22 om_isKept u66.1 u66.2.1 u66.2.2.1 u66.2.2.2.1 (nI u66.2.2.2.2.1) u66.2.2.2.2.2.1 u66.2.2.2.2.2.2.1 u66.2.2.2.2.2.2.2.1 u66.2.2.2.2.2.2.2.2.1 u66.2.2.2.2.2.2.2.2.2 om_text om_signs om_at om_isWrong om_clauses om_letters om_one om_two om_three om_whys om_backs om_sorts om_sizes om_items) ⟨Nat.le_of_ble_eq_true rfl, Nat.le_of_ble_eq_true rfl⟩ ⟨Nat.zero_le _, Nat.zero_le _⟩ hP hD hS hA [0, 1, 2, 3, 4, 5, 6, 7, 8, 9, 10, 11, 12, 13, 14, 15, 16, 17, 18, 19, 20, 21] [] [0, 1, 2, 3, 4, 5, 6, 7, 8, 9, 10, 11, 12, 13, 14, 15, 16, 17, 18, 19, 20, 21] (wr := []) (wn := fun u112 => wX7 cy om om_thrown u112 om_kept u22 om_isKept u66.1 u66.2.1 u66.2.2.1 u66.2.2.2.1 (nI u66.2.2.2.2.1) u66.2.2.2.2.2.1 u66.2.2.2.2.2.2.1 u66.2.2.2.2.2.2.2.1 u66.2.2.2.2.2.2.2.2.1 u66.2.2.2.2.2.2.2.2.2 om_text om_signs om_at om_isWrong om_clauses om_letters om_one om_two om_three om_whys om_backs om_sorts om_sizes om_items) rfl (by decide) rfl (by decide) (by decide) (fun _ => rfl) (by decide) rfl hl.1 rfl (Nat.le_of_ble_eq_true rfl) dX7_ends_112 (fun u112 H locs hw112 hP hD hS => ?_)
          refine lv_iload_n hx hb dX7_ends_115 rfl (lv_at hl 0 rfl) ?_
          exact W.iret (v := ((z27 1) - u66.2.2.2.2.2.2.2.2.1)) hx hb hr (fun t ht hW => ⟨⟨((z27 1) - u66.2.2.2.2.2.2.2.2.1), (u112, u22, u66.1, u66.2.1, u66.2.2.1, u66.2.2.2.1, u66.2.2.2.2.1, u66.2.2.2.2.2.1, u66.2.2.2.2.2.2.1, u66.2.2.2.2.2.2.2.1, u66.2.2.2.2.2.2.2.2.1, u66.2.2.2.2.2.2.2.2.2), rfl, by subst hw112; subst hw66; subst hz27; subst hw22; unfold f_X7_ends; rw [if_neg c1, if_neg c3, if_pos c4] <;> rfl, by rw [ht]; exact hP, hD⟩, hS.F ht⟩) hS.2.2 dX7_ends_116
      · refine lv_aload_n hx hb dX7_ends_73 rfl (lv_at hl 1 rfl) ?_
        refine gf_X7_142 hx hb hG hown hKX hP 0 rfl rfl dX7_ends_74 ?_
        refine lv_goto (tgt := 103) hx hb dX7_ends_77 (by decide) ?_
        refine lv_istore_n (lv' := [(2, .int u66.2.2.2.2.2.2.2.2.1), (0, .ref (om 0)), (1, .int what)]) hx hb dX7_ends_103 rfl hl (by decide) rfl (fun ls hl => ?_)
        refine lv_aload_n hx hb dX7_ends_104 rfl (lv_at hl 1 rfl) ?_
        refine gf_X7_22 hx hb hG hown hKX hP 0 rfl rfl dX7_ends_105 ?_
        refine lv_aload_n hx hb dX7_ends_108 rfl (lv_at hl 1 rfl) ?_
        refine gf_X7_15 hx hb hG hown hKX hP 0 rfl rfl dX7_ends_109 ?_
        refine cRwSV mw30_10 mw30_11 mw1_5 mw30_12 hd_X7_copies hx hb hml hown hG hKX (c_X7_copiesas l D cy om om_thrown z27 om_kept u22 om_isKept u66.1 u66.2.1 u66.2.2.1 u66.2.2.2.1 (nI u66.2.2.2.2.1) u66.2.2.2.2.2.1 u66.2.2.2.2.2.2.1 u66.2.2.2.2.2.2.2.1 u66.2.2.2.2.2.2.2.2.1 u66.2.2.2.2.2.2.2.2.2 om_text om_signs om_at om_isWrong om_clauses om_letters om_one om_two om_three om_whys om_backs om_sorts om_sizes om_items) ⟨Nat.le_of_ble_eq_true rfl, Nat.le_of_ble_eq_true rfl⟩ ⟨Nat.zero_le _, Nat.zero_le _⟩ hP hD hS hA [0, 1, 2, 3, 4, 5, 6, 7, 8, 9, 10, 11, 12, 13, 14, 15, 16, 17, 18, 19, 20, 21] [] [0, 1, 2, 3, 4, 5, 6, 7, 8, 9, 10, 11, 12, 13, 14, 15, 16, 17, 18, 19, 20, 21] (wr := []) (wn := fun u112 => wX7 cy om om_thrown u112 om_kept u22 om_isKept u66.1 u66.2.1 u66.2.2.1 u66.2.2.2.1 (nI u66.2.2.2.2.1) u66.2.2.2.2.2.1 u66.2.2.2.2.2.2.1 u66.2.2.2.2.2.2.2.1 u66.2.2.2.2.2.2.2.2.1 u66.2.2.2.2.2.2.2.2.2 om_text om_signs om_at om_isWrong om_clauses om_letters om_one om_two om_three om_whys om_backs om_sorts om_sizes om_items) rfl (by decide) rfl (by decide) (by decide) (fun _ => rfl) (by decide) rfl hl.1 rfl (Nat.le_of_ble_eq_true rfl) dX7_ends_112 (fun u112 H locs hw112 hP hD hS => ?_)
        refine lv_iload_n hx hb dX7_ends_115 rfl (lv_at hl 0 rfl) ?_
        exact W.iret (v := u66.2.2.2.2.2.2.2.2.1) hx hb hr (fun t ht hW => ⟨⟨u66.2.2.2.2.2.2.2.2.1, (u112, u22, u66.1, u66.2.1, u66.2.2.1, u66.2.2.2.1, u66.2.2.2.2.1, u66.2.2.2.2.2.1, u66.2.2.2.2.2.2.1, u66.2.2.2.2.2.2.2.1, u66.2.2.2.2.2.2.2.2.1, u66.2.2.2.2.2.2.2.2.2), rfl, by subst hw112; subst hw66; subst hz27; subst hw22; unfold f_X7_ends; rw [if_neg c1, if_pos c3] <;> rfl, by rw [ht]; exact hP, hD⟩, hS.F ht⟩) hS.2.2 dX7_ends_116
    · have hlt27 : k27 < q := Nat.lt_of_not_le (fun qq_ => c2 ((le_n (N := q) (k := k27) rfl (by omega) (by omega)).mpr qq_))
      have hz0 : z27 0 = nI n := by subst hz27; exact (ends_s0 hn (fun k hk h1 h2 => (hpa k hk h1 h2).2) k27 (by omega) om_s).trans hs0
      refine lv_aload_n hx hb dX7_ends_37 rfl (lv_at hl 1 rfl) ?_
      refine lv_aload_n hx hb dX7_ends_38 rfl (lv_at hl 1 rfl) ?_
      refine gf_X7_22 hx hb hG hown hKX hP 0 rfl rfl dX7_ends_39 ?_
      refine lv_bipush (v := (45 : Int32)) hx hb dX7_ends_42 (by decide) ?_
      refine lv_iload_n hx hb dX7_ends_44 rfl (lv_at hl 0 rfl) ?_
      refine lv_iadd hx hb dX7_ends_45 ?_
      refine topi_eq (y := nI (45 + k27)) (aN rfl rfl) ?_
      refine iald_n hx hb hKX hP 3 rfl rfl (by omega) (by decide) dX7_ends_46 ?_
      refine lv_aload_n hx hb dX7_ends_47 rfl (lv_at hl 1 rfl) ?_
      refine gf_X7_22 hx hb hG hown hKX hP 0 rfl rfl dX7_ends_48 ?_
      refine lv_bipush (v := (53 : Int32)) hx hb dX7_ends_51 (by decide) ?_
      refine lv_iload_n hx hb dX7_ends_53 rfl (lv_at hl 0 rfl) ?_
      refine lv_iadd hx hb dX7_ends_54 ?_
      refine topi_eq (y := nI (53 + k27)) (aN rfl rfl) ?_
      refine iald_n hx hb hKX hP 3 rfl rfl (by omega) (by decide) dX7_ends_55 ?_
      refine cRwVV (q0 := 0) (ci := 7) mw30_13 mw30_14 mw30_15 mw1_5 mw30_16 rfl rfl hd_X7_goes hx hb hml hown hG hKX (c_X7_goes l D cy om om_thrown z27 om_kept u22 om_isKept om_reaches om_ringOf om_rungOf om_rings (nI r) om_paid om_leftOf om_ringPaid om_paidAll om_mosts om_text om_signs om_at om_isWrong om_clauses om_letters om_one om_two om_three om_whys om_backs om_sorts om_sizes om_items (u22 (45 + k27)) (u22 (53 + k27)) n ((u22 (53 + k27)).toNatClampNeg) hn hz0 (hpa k27 (by omega))) ⟨Nat.le_of_ble_eq_true rfl, Nat.le_of_ble_eq_true rfl⟩ ⟨Nat.zero_le _, Nat.zero_le _⟩ hP hD hS hA [0, 1, 2, 3, 4, 5, 6, 7, 8, 9, 10, 11, 12, 13, 14, 15, 16, 17, 18, 19, 20, 21] [] [0, 1, 2, 3, 4, 5, 6, 7, 8, 9, 10, 11, 12, 13, 14, 15, 16, 17, 18, 19, 20, 21] (wr := []) (wn := fun u56 => wX7 cy om om_thrown u56 om_kept u22 om_isKept om_reaches om_ringOf om_rungOf om_rings (nI r) om_paid om_leftOf om_ringPaid om_paidAll om_mosts om_text om_signs om_at om_isWrong om_clauses om_letters om_one om_two om_three om_whys om_backs om_sorts om_sizes om_items) rfl (by decide) rfl (by decide) (by decide) (fun _ => rfl) (by decide) rfl rfl hl.1 rfl (Nat.le_of_ble_eq_true rfl) dX7_ends_56 (fun u56 H locs hw56 hP hD hS => ?_)
      refine lv_iinc (v := nI (k27 + 1)) (lv' := [(2, .int (nI (k27 + 1))), (0, .ref (om 0)), (1, .int what)]) hx hb dX7_ends_59 hl (k := 0) rfl (nI_1 _) (by decide) rfl (fun ls hl => ?_)
      refine lv_goto (tgt := 27) hx hb dX7_ends_62 (by decide) ?_
      exact ih27 u56 _ _ _ hlt27 (by subst hw56; subst hw22; unfold bd_X7_ends_27; rfl) hP hD hS (lv_sub hl [0, 1, 2] rfl)
  · refine lv_iconst (v := (-1 : Int32)) hx hb dX7_ends_12 (by decide) ?_
    exact W.iret (v := (-1 : Int32)) hx hb hr (fun t ht hW => ⟨⟨(-1 : Int32), (om_s, om_aside, om_reaches, om_ringOf, om_rungOf, om_rings, r, om_paid, om_leftOf, om_ringPaid, om_paidAll, om_mosts), rfl, by unfold f_X7_ends; rw [if_pos c1] <;> rfl, by rw [ht]; exact hP, hD⟩, hS.F ht⟩) hS.2.2 dX7_ends_13
