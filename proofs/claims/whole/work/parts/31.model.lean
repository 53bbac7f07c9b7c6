theorem pay_le {om_s : Nat → Int32} {om_reaches : Nat → Int32} {om_ringOf : Nat → Int32} {om_rungOf : Nat → Int32} {om_rings : Nat → Int32} {om_paid : Nat → Int32} {om_leftOf : Nat → Int32} {om_ringPaid : Nat → Int32} {om_mosts : Nat → Int32} {n : Nat} (hn : n ≤ 6) : (f_X7_pay om_s om_reaches om_ringOf om_rungOf om_rings om_paid om_leftOf om_ringPaid om_mosts n).2.2.2.2.1 ≤ 6 := mladder_le hn
theorem pay_rung {om_s : Nat → Int32} {om_reaches : Nat → Int32} {om_ringOf : Nat → Int32} {om_rungOf : Nat → Int32} {om_rings : Nat → Int32} {om_paid : Nat → Int32} {om_leftOf : Nat → Int32} {om_ringPaid : Nat → Int32} {om_mosts : Nat → Int32} {n : Nat} (hn : n ≤ 6) : ∀ k, k < n → f_X7_rungAt (f_X7_pay om_s om_reaches om_ringOf om_rungOf om_rings om_paid om_leftOf om_ringPaid om_mosts n).2.2.2.1 (f_X7_pay om_s om_reaches om_ringOf om_rungOf om_rings om_paid om_leftOf om_ringPaid om_mosts n).2.2.2.2.1 k = nI (f_X7_rungAt (f_X7_pay om_s om_reaches om_ringOf om_rungOf om_rings om_paid om_leftOf om_ringPaid om_mosts n).2.2.2.1 (f_X7_pay om_s om_reaches om_ringOf om_rungOf om_rings om_paid om_leftOf om_ringPaid om_mosts n).2.2.2.2.1 k).toNatClampNeg ∧ (f_X7_rungAt (f_X7_pay om_s om_reaches om_ringOf om_rungOf om_rings om_paid om_leftOf om_ringPaid om_mosts n).2.2.2.1 (f_X7_pay om_s om_reaches om_ringOf om_rungOf om_rings om_paid om_leftOf om_ringPaid om_mosts n).2.2.2.2.1 k).toNatClampNeg < 6 := by
  intro k hk
  obtain ⟨j, hj, hg⟩ := ix_ex hn (fun c => om_s (29 + c)) hk
  have h := ladder7 hn (s := om_s) (refers := fun c => om_s (29 + c)) (fun _ _ => rfl) om_reaches om_ringOf om_rungOf om_rings
  have e : f_X7_rungAt (f_X7_ladder om_s om_reaches om_ringOf om_rungOf om_rings n).2.2.2.1 (f_X7_ladder om_s om_reaches om_ringOf om_rungOf om_rings n).2.2.2.2 k = nI j := rungAt7 hn h hk (by rw [h.1]; exact hj) hg
  have hl := LM_le n (fun c => om_s (29 + c))
  unfold f_X7_pay
  dsimp only
  rw [e, nI_clamp (by omega)]
  exact ⟨rfl, by omega⟩
theorem inN_of {n : Nat} {c : Int32} (hn : n < 2 ^ 31) (h : ¬ f_X7_in c.toInt64 0 (nI n - 1).toInt64 = 0) : ∃ j, c.toNatClampNeg = j ∧ j < n ∧ c = nI j := isO_of hn h
def f_X7_of (om_s : Nat → Int32) (om_reaches : Nat → Int32) (om_ringOf : Nat → Int32) (om_rungOf : Nat → Int32) (om_rings : Nat → Int32) (om_paid : Nat → Int32) (om_leftOf : Nat → Int32) (om_ringPaid : Nat → Int32) (om_paidAll : Int32) (om_mosts : Nat → Int32) (c : Int32) (what : Int32) (n : Nat) (r : Nat) : Int32 × (Nat → Int32) × (Nat → Int32) × (Nat → Int32) × (Nat → Int32) × Nat × (Nat → Int32) × (Nat → Int32) × (Nat → Int32) × Int32 × (Nat → Int32) :=
  if (f_X7_isOne c n) = (0 : Int32) then ((-1 : Int32), (om_reaches, om_ringOf, om_rungOf, om_rings, r, om_paid, om_leftOf, om_ringPaid, om_paidAll, om_mosts)) else (if what = (0 : Int32) then ((om_s (5 + c.toNatClampNeg)), (f_X7_pay om_s om_reaches om_ringOf om_rungOf om_rings om_paid om_leftOf om_ringPaid om_mosts n)) else (if what = (1 : Int32) then ((om_s (11 + c.toNatClampNeg)), (f_X7_pay om_s om_reaches om_ringOf om_rungOf om_rings om_paid om_leftOf om_ringPaid om_mosts n)) else (if what = (2 : Int32) then ((om_s (17 + c.toNatClampNeg)), (f_X7_pay om_s om_reaches om_ringOf om_rungOf om_rings om_paid om_leftOf om_ringPaid om_mosts n)) else (if what = (3 : Int32) then ((om_s (23 + c.toNatClampNeg)), (f_X7_pay om_s om_reaches om_ringOf om_rungOf om_rings om_paid om_leftOf om_ringPaid om_mosts n)) else (if what = (4 : Int32) then ((om_s (29 + c.toNatClampNeg)), (f_X7_pay om_s om_reaches om_ringOf om_rungOf om_rings om_paid om_leftOf om_ringPaid om_mosts n)) else (if what = (5 : Int32) then ((((f_X7_pay om_s om_reaches om_ringOf om_rungOf om_rings om_paid om_leftOf om_ringPaid om_mosts n).1 c.toNatClampNeg) &&& (((1 : Int32) <<< (nI c.toNatClampNeg &&& 31)) ^^^ (-1 : Int32))), (f_X7_pay om_s om_reaches om_ringOf om_rungOf om_rings om_paid om_leftOf om_ringPaid om_mosts n)) else (if what = (6 : Int32) then (((f_X7_pay om_s om_reaches om_ringOf om_rungOf om_rings om_paid om_leftOf om_ringPaid om_mosts n).2.1 c.toNatClampNeg), (f_X7_pay om_s om_reaches om_ringOf om_rungOf om_rings om_paid om_leftOf om_ringPaid om_mosts n)) else (if what = (7 : Int32) then (((f_X7_pay om_s om_reaches om_ringOf om_rungOf om_rings om_paid om_leftOf om_ringPaid om_mosts n).2.2.1 c.toNatClampNeg), (f_X7_pay om_s om_reaches om_ringOf om_rungOf om_rings om_paid om_leftOf om_ringPaid om_mosts n)) else (if what = (8 : Int32) then (((f_X7_pay om_s om_reaches om_ringOf om_rungOf om_rings om_paid om_leftOf om_ringPaid om_mosts n).2.2.2.2.2.2.1 ((f_X7_rungAt (f_X7_pay om_s om_reaches om_ringOf om_rungOf om_rings om_paid om_leftOf om_ringPaid om_mosts n).2.2.2.1 (f_X7_pay om_s om_reaches om_ringOf om_rungOf om_rings om_paid om_leftOf om_ringPaid om_mosts n).2.2.2.2.1 c.toNatClampNeg).toNatClampNeg)), (f_X7_pay om_s om_reaches om_ringOf om_rungOf om_rings om_paid om_leftOf om_ringPaid om_mosts n)) else (if what = (9 : Int32) then (((f_X7_pay om_s om_reaches om_ringOf om_rungOf om_rings om_paid om_leftOf om_ringPaid om_mosts n).2.2.2.2.2.1 c.toNatClampNeg), (f_X7_pay om_s om_reaches om_ringOf om_rungOf om_rings om_paid om_leftOf om_ringPaid om_mosts n)) else ((-1 : Int32), (f_X7_pay om_s om_reaches om_ringOf om_rungOf om_rings om_paid om_leftOf om_ringPaid om_mosts n))))))))))))
set_option maxHeartbeats 4000000 in
set_option maxRecDepth 100000 in
theorem c_X7_of (l : Launch) (D : va_G) (cy : Nat → ClassId) (om : Nat → Nat) (om_thrown : Int32) (om_s : Nat → Int32) (om_kept : Nat → Int32) (om_aside : Nat → Int32) (om_isKept : Int32) (om_reaches : Nat → Int32) (om_ringOf : Nat → Int32) (om_rungOf : Nat → Int32) (om_rings : Nat → Int32) (om_paid : Nat → Int32) (om_leftOf : Nat → Int32) (om_ringPaid : Nat → Int32) (om_paidAll : Int32) (om_mosts : Nat → Int32) (om_text : Nat → Int32) (om_signs : Int32) (om_at : Int32) (om_isWrong : Int32) (om_clauses : Int32) (om_letters : Nat → Int32) (om_one : Nat → Int32) (om_two : Nat → Int32) (om_three : Nat → Int32) (om_whys : Nat → Int32) (om_backs : Nat → Int32) (om_sorts : Nat → Int32) (om_sizes : Nat → Int32) (om_items : Nat → Int64) (c : Int32) (what : Int32) (n : Nat) (r : Nat) (hn : n ≤ 6) (hs0 : om_s 0 = nI n) : RwI (S := (Nat → Int32) × (Nat → Int32) × (Nat → Int32) × (Nat → Int32) × Nat × (Nat → Int32) × (Nat → Int32) × (Nat → Int32) × Int32 × (Nat → Int32)) l D cy yX7_of (.code yX7_of cX7_of 3 (some .int)) 5 (wX7 cy om om_thrown om_s om_kept om_aside om_isKept om_reaches om_ringOf om_rungOf om_rings (nI r) om_paid om_leftOf om_ringPaid om_paidAll om_mosts om_text om_signs om_at om_isWrong om_clauses om_letters om_one om_two om_three om_whys om_backs om_sorts om_sizes om_items) [.ref (om 0), .int c, .int what] (fun rr u => (rr, u) = f_X7_of om_s om_reaches om_ringOf om_rungOf om_rings om_paid om_leftOf om_ringPaid om_paidAll om_mosts c what n r) (fun u => wX7 cy om om_thrown om_s om_kept om_aside om_isKept u.1 u.2.1 u.2.2.1 u.2.2.2.1 (nI u.2.2.2.2.1) u.2.2.2.2.2.1 u.2.2.2.2.2.2.1 u.2.2.2.2.2.2.2.1 u.2.2.2.2.2.2.2.2.1 u.2.2.2.2.2.2.2.2.2 om_text om_signs om_at om_isWrong om_clauses om_letters om_one om_two om_three om_whys om_backs om_sorts om_sizes om_items) := by
  intro sz
  refine Met.ofW (cc := cX7_of) (maxL := 3) (ret := (some .int)) (by decide) rfl ?_
  intro pP eE s0 mM args below meth cC s₁ B hml hv
  obtain ⟨rfl, hsz, hP, hKX, hD0⟩ := hv
  have hx := B.exec
  have hb := B.bytes
  have hr := B.returns
  have hG := gw_hts (atoms_spec (ws := _) B.pre)
  have hown : s0.vm.findClass RX7 = some mM.cls := findClass_of_methodNamed B.named
  have hlocks := B.notSynchronized
  subst hsz
  have hD := hD0.self (sz := s0.heap.size)
  generalize hAe : va_A (wX7 cy om om_thrown om_s om_kept om_aside om_isKept om_reaches om_ringOf om_rungOf om_rings (nI r) om_paid om_leftOf om_ringPaid om_paidAll om_mosts om_text om_signs om_at om_isWrong om_clauses om_letters om_one om_two om_three om_whys om_backs om_sorts om_sizes om_items) s0.heap.size = A at hD ⊢
  have hA : ∀ q : Nat, s0.heap.size ≤ q → A q := fun q h => by rw [← hAe]; exact Or.inr h
  have hS : va_S A s0.heap s0.heap [] := va_S.rf
  have hl := lv_entry ([.ref (om 0), .int c, .int what]) (n := 3) (Nat.le_of_ble_eq_true rfl)
  rw [lg_entry_eq]
  generalize (lg_sl ([.ref (om 0), .int c, .int what]) ++ List.replicate (3 - (lg_sl ([.ref (om 0), .int c, .int what])).length) Slot.unset).toArray = ls at hl ⊢
  have hl : lv_has ls 3 [(0, .ref (om 0)), (1, .int c), (2, .int what)] := hl
  refine lv_aload_n hx hb dX7_of_0 rfl (lv_at hl 0 rfl) ?_
  refine lv_iload_n hx hb dX7_of_1 rfl (lv_at hl 1 rfl) ?_
  refine cRoV (q0 := 0) (ci := 7) mw8_2 mw8_3 mw8_4 mw1_5 mw8_5 rfl rfl hd_X7_isOne hx hb hml hown hG hKX (c_X7_isOne l D cy om om_thrown om_s om_kept om_aside om_isKept om_reaches om_ringOf om_rungOf om_rings (nI r) om_paid om_leftOf om_ringPaid om_paidAll om_mosts om_text om_signs om_at om_isWrong om_clauses om_letters om_one om_two om_three om_whys om_backs om_sorts om_sizes om_items c n hn hs0) ⟨Nat.le_of_ble_eq_true rfl, Nat.le_of_ble_eq_true rfl⟩ ⟨Nat.zero_le _, Nat.zero_le _⟩ hP rfl rfl hl.1 rfl (Nat.le_of_ble_eq_true rfl) dX7_of_2 ?_
  refine lv_if_ne (tgt := 10) hx hb dX7_of_5 (by decide) (fun c1 => ?_) (fun c1 => ?_)
  · obtain ⟨j5, hj5, hlj5, rfl⟩ := isO_of (by omega) c1
    refine lv_aload_n hx hb dX7_of_10 rfl (lv_at hl 0 rfl) ?_
    refine cRwVV (q0 := 0) (ci := 7) mw14_9 mw14_10 mw14_11 mw1_5 mw14_12 rfl rfl hd_X7_pay hx hb hml hown hG hKX (c_X7_pay l D cy om om_thrown om_s om_kept om_aside om_isKept om_reaches om_ringOf om_rungOf om_rings (nI r) om_paid om_leftOf om_ringPaid om_paidAll om_mosts om_text om_signs om_at om_isWrong om_clauses om_letters om_one om_two om_three om_whys om_backs om_sorts om_sizes om_items n hn hs0) ⟨Nat.le_of_ble_eq_true rfl, Nat.le_of_ble_eq_true rfl⟩ ⟨Nat.zero_le _, Nat.zero_le _⟩ hP hD hS hA [0, 1, 2, 3, 4, 5, 6, 7, 8, 9, 10, 11, 12, 13, 14, 15, 16, 17, 18, 19, 20, 21] [] [0, 1, 2, 3, 4, 5, 6, 7, 8, 9, 10, 11, 12, 13, 14, 15, 16, 17, 18, 19, 20, 21] (wr := []) (wn := fun u11 => wX7 cy om om_thrown om_s om_kept om_aside om_isKept u11.1 u11.2.1 u11.2.2.1 u11.2.2.2.1 (nI u11.2.2.2.2.1) u11.2.2.2.2.2.1 u11.2.2.2.2.2.2.1 u11.2.2.2.2.2.2.2.1 u11.2.2.2.2.2.2.2.2.1 u11.2.2.2.2.2.2.2.2.2 om_text om_signs om_at om_isWrong om_clauses om_letters om_one om_two om_three om_whys om_backs om_sorts om_sizes om_items) rfl (by decide) rfl (by decide) (by decide) (fun _ => rfl) (by decide) rfl rfl hl.1 rfl (Nat.le_of_ble_eq_true rfl) dX7_of_11 (fun u11 H locs hw11 hP hD hS => ?_)
    have hrl : u11.2.2.2.2.1 ≤ 6 := by subst hw11; exact pay_le hn
    have hrg : ∀ k, k < n → (f_X7_rungAt u11.2.2.2.1 u11.2.2.2.2.1 k) = nI (f_X7_rungAt u11.2.2.2.1 u11.2.2.2.2.1 k).toNatClampNeg ∧ (f_X7_rungAt u11.2.2.2.1 u11.2.2.2.2.1 k).toNatClampNeg < 6 := by subst hw11; exact pay_rung hn
    refine lv_iload_n hx hb dX7_of_14 rfl (lv_at hl 2 rfl) ?_
    by_cases c2 : what = (0 : Int32)
    · refine lv_tableIn (tgt := 68) hx hb dX7_of_15 (by rw [c2]; decide) (by rw [c2]; decide) (by rw [c2]; rfl) (by decide) ?_
      refine lv_aload_n hx hb dX7_of_68 rfl (lv_at hl 0 rfl) ?_
      refine gf_X7_15 hx hb hG hown hKX hP 0 rfl rfl dX7_of_69 ?_
      refine lv_iconst (v := (5 : Int32)) hx hb dX7_of_72 (by decide) ?_
      refine lv_iload_n hx hb dX7_of_73 rfl (lv_at hl 1 rfl) ?_
      refine lv_iadd hx hb dX7_of_74 ?_
      refine topi_eq (y := nI (5 + j5)) (aN rfl rfl) ?_
      refine iald_n hx hb hKX hP 1 rfl rfl (by omega) (by decide) dX7_of_75 ?_
      exact W.iret (v := (om_s (5 + j5))) hx hb hr (fun t ht hW => ⟨⟨(om_s (5 + j5)), u11, rfl, by subst hw11; unfold f_X7_of; (try simp only [hj5]); rw [if_neg c1, if_pos c2] <;> rfl, by rw [ht]; exact hP, hD⟩, hS.F ht⟩) hS.2.2 dX7_of_76
    · by_cases c3 : what = (1 : Int32)
      · refine lv_tableIn (tgt := 77) hx hb dX7_of_15 (by rw [c3]; decide) (by rw [c3]; decide) (by rw [c3]; rfl) (by decide) ?_
        refine lv_aload_n hx hb dX7_of_77 rfl (lv_at hl 0 rfl) ?_
        refine gf_X7_15 hx hb hG hown hKX hP 0 rfl rfl dX7_of_78 ?_
        refine lv_bipush (v := (11 : Int32)) hx hb dX7_of_81 (by decide) ?_
        refine lv_iload_n hx hb dX7_of_83 rfl (lv_at hl 1 rfl) ?_
        refine lv_iadd hx hb dX7_of_84 ?_
        refine topi_eq (y := nI (11 + j5)) (aN rfl rfl) ?_
        refine iald_n hx hb hKX hP 1 rfl rfl (by omega) (by decide) dX7_of_85 ?_
        exact W.iret (v := (om_s (11 + j5))) hx hb hr (fun t ht hW => ⟨⟨(om_s (11 + j5)), u11, rfl, by subst hw11; unfold f_X7_of; (try simp only [hj5]); rw [if_neg c1, if_neg c2, if_pos c3] <;> rfl, by rw [ht]; exact hP, hD⟩, hS.F ht⟩) hS.2.2 dX7_of_86
      · by_cases c4 : what = (2 : Int32)
        · refine lv_tableIn (tgt := 87) hx hb dX7_of_15 (by rw [c4]; decide) (by rw [c4]; decide) (by rw [c4]; rfl) (by decide) ?_
          refine lv_aload_n hx hb dX7_of_87 rfl (lv_at hl 0 rfl) ?_
          refine gf_X7_15 hx hb hG hown hKX hP 0 rfl rfl dX7_of_88 ?_
          refine lv_bipush (v := (17 : Int32)) hx hb dX7_of_91 (by decide) ?_
          refine lv_iload_n hx hb dX7_of_93 rfl (lv_at hl 1 rfl) ?_
          refine lv_iadd hx hb dX7_of_94 ?_
          refine topi_eq (y := nI (17 + j5)) (aN rfl rfl) ?_
          refine iald_n hx hb hKX hP 1 rfl rfl (by omega) (by decide) dX7_of_95 ?_
          exact W.iret (v := (om_s (17 + j5))) hx hb hr (fun t ht hW => ⟨⟨(om_s (17 + j5)), u11, rfl, by subst hw11; unfold f_X7_of; (try simp only [hj5]); rw [if_neg c1, if_neg c2, if_neg c3, if_pos c4] <;> rfl, by rw [ht]; exact hP, hD⟩, hS.F ht⟩) hS.2.2 dX7_of_96
        · by_cases c5 : what = (3 : Int32)
          · refine lv_tableIn (tgt := 97) hx hb dX7_of_15 (by rw [c5]; decide) (by rw [c5]; decide) (by rw [c5]; rfl) (by decide) ?_
            refine lv_aload_n hx hb dX7_of_97 rfl (lv_at hl 0 rfl) ?_
            refine gf_X7_15 hx hb hG hown hKX hP 0 rfl rfl dX7_of_98 ?_
            refine lv_bipush (v := (23 : Int32)) hx hb dX7_of_101 (by decide) ?_
            refine lv_iload_n hx hb dX7_of_103 rfl (lv_at hl 1 rfl) ?_
            refine lv_iadd hx hb dX7_of_104 ?_
            refine topi_eq (y := nI (23 + j5)) (aN rfl rfl) ?_
            refine iald_n hx hb hKX hP 1 rfl rfl (by omega) (by decide) dX7_of_105 ?_
            exact W.iret (v := (om_s (23 + j5))) hx hb hr (fun t ht hW => ⟨⟨(om_s (23 + j5)), u11, rfl, by subst hw11; unfold f_X7_of; (try simp only [hj5]); rw [if_neg c1, if_neg c2, if_neg c3, if_neg c4, if_pos c5] <;> rfl, by rw [ht]; exact hP, hD⟩, hS.F ht⟩) hS.2.2 dX7_of_106
          · by_cases c6 : what = (4 : Int32)
            · refine lv_tableIn (tgt := 107) hx hb dX7_of_15 (by rw [c6]; decide) (by rw [c6]; decide) (by rw [c6]; rfl) (by decide) ?_
              refine lv_aload_n hx hb dX7_of_107 rfl (lv_at hl 0 rfl) ?_
              refine gf_X7_15 hx hb hG hown hKX hP 0 rfl rfl dX7_of_108 ?_
              refine lv_bipush (v := (29 : Int32)) hx hb dX7_of_111 (by decide) ?_
              refine lv_iload_n hx hb dX7_of_113 rfl (lv_at hl 1 rfl) ?_
              refine lv_iadd hx hb dX7_of_114 ?_
              refine topi_eq (y := nI (29 + j5)) (aN rfl rfl) ?_
              refine iald_n hx hb hKX hP 1 rfl rfl (by omega) (by decide) dX7_of_115 ?_
              exact W.iret (v := (om_s (29 + j5))) hx hb hr (fun t ht hW => ⟨⟨(om_s (29 + j5)), u11, rfl, by subst hw11; unfold f_X7_of; (try simp only [hj5]); rw [if_neg c1, if_neg c2, if_neg c3, if_neg c4, if_neg c5, if_pos c6] <;> rfl, by rw [ht]; exact hP, hD⟩, hS.F ht⟩) hS.2.2 dX7_of_116
            · by_cases c7 : what = (5 : Int32)
              · refine lv_tableIn (tgt := 117) hx hb dX7_of_15 (by rw [c7]; decide) (by rw [c7]; decide) (by rw [c7]; rfl) (by decide) ?_
                refine lv_aload_n hx hb dX7_of_117 rfl (lv_at hl 0 rfl) ?_
                refine gf_X7_25 hx hb hG hown hKX hP 0 rfl rfl dX7_of_118 ?_
                refine lv_iload_n hx hb dX7_of_121 rfl (lv_at hl 1 rfl) ?_
                refine iald_n hx hb hKX hP 4 rfl rfl (by omega) (by decide) dX7_of_122 ?_
                refine lv_iconst (v := (1 : Int32)) hx hb dX7_of_123 (by decide) ?_
                refine lv_iload_n hx hb dX7_of_124 rfl (lv_at hl 1 rfl) ?_
                refine lv_ishl hx hb dX7_of_125 ?_
                refine lv_iconst (v := (-1 : Int32)) hx hb dX7_of_126 (by decide) ?_
                refine lv_ixor hx hb dX7_of_127 ?_
                refine lv_iand hx hb dX7_of_128 ?_
                exact W.iret (v := ((u11.1 j5) &&& (((1 : Int32) <<< (nI j5 &&& 31)) ^^^ (-1 : Int32)))) hx hb hr (fun t ht hW => ⟨⟨((u11.1 j5) &&& (((1 : Int32) <<< (nI j5 &&& 31)) ^^^ (-1 : Int32))), u11, rfl, by subst hw11; unfold f_X7_of; (try simp only [hj5]); rw [if_neg c1, if_neg c2, if_neg c3, if_neg c4, if_neg c5, if_neg c6, if_pos c7] <;> rfl, by rw [ht]; exact hP, hD⟩, hS.F ht⟩) hS.2.2 dX7_of_129
              · by_cases c8 : what = (6 : Int32)
                · refine lv_tableIn (tgt := 130) hx hb dX7_of_15 (by rw [c8]; decide) (by rw [c8]; decide) (by rw [c8]; rfl) (by decide) ?_
                  refine lv_aload_n hx hb dX7_of_130 rfl (lv_at hl 0 rfl) ?_
                  refine gf_X7_28 hx hb hG hown hKX hP 0 rfl rfl dX7_of_131 ?_
                  refine lv_iload_n hx hb dX7_of_134 rfl (lv_at hl 1 rfl) ?_
                  refine iald_n hx hb hKX hP 5 rfl rfl (by omega) (by decide) dX7_of_135 ?_
                  exact W.iret (v := (u11.2.1 j5)) hx hb hr (fun t ht hW => ⟨⟨(u11.2.1 j5), u11, rfl, by subst hw11; unfold f_X7_of; (try simp only [hj5]); rw [if_neg c1, if_neg c2, if_neg c3, if_neg c4, if_neg c5, if_neg c6, if_neg c7, if_pos c8] <;> rfl, by rw [ht]; exact hP, hD⟩, hS.F ht⟩) hS.2.2 dX7_of_136
                · by_cases c9 : what = (7 : Int32)
                  · refine lv_tableIn (tgt := 137) hx hb dX7_of_15 (by rw [c9]; decide) (by rw [c9]; decide) (by rw [c9]; rfl) (by decide) ?_
                    refine lv_aload_n hx hb dX7_of_137 rfl (lv_at hl 0 rfl) ?_
                    refine gf_X7_31 hx hb hG hown hKX hP 0 rfl rfl dX7_of_138 ?_
                    refine lv_iload_n hx hb dX7_of_141 rfl (lv_at hl 1 rfl) ?_
                    refine iald_n hx hb hKX hP 6 rfl rfl (by omega) (by decide) dX7_of_142 ?_
                    exact W.iret (v := (u11.2.2.1 j5)) hx hb hr (fun t ht hW => ⟨⟨(u11.2.2.1 j5), u11, rfl, by subst hw11; unfold f_X7_of; (try simp only [hj5]); rw [if_neg c1, if_neg c2, if_neg c3, if_neg c4, if_neg c5, if_neg c6, if_neg c7, if_neg c8, if_pos c9] <;> rfl, by rw [ht]; exact hP, hD⟩, hS.F ht⟩) hS.2.2 dX7_of_143
                  · by_cases c10 : what = (8 : Int32)
                    · refine lv_tableIn (tgt := 144) hx hb dX7_of_15 (by rw [c10]; decide) (by rw [c10]; decide) (by rw [c10]; rfl) (by decide) ?_
                      refine lv_aload_n hx hb dX7_of_144 rfl (lv_at hl 0 rfl) ?_
                      refine gf_X7_40 hx hb hG hown hKX hP 0 rfl rfl dX7_of_145 ?_
                      refine lv_aload_n hx hb dX7_of_148 rfl (lv_at hl 0 rfl) ?_
                      refine lv_iload_n hx hb dX7_of_149 rfl (lv_at hl 1 rfl) ?_
                      refine cRoV (q0 := 0) (ci := 7) mw16_13 mw16_14 mw16_15 mw1_5 mw16_16 rfl rfl hd_X7_rungAt hx hb hml hown hG hKX (c_X7_rungAt l D cy om om_thrown om_s om_kept om_aside om_isKept u11.1 u11.2.1 u11.2.2.1 u11.2.2.2.1 u11.2.2.2.2.2.1 u11.2.2.2.2.2.2.1 u11.2.2.2.2.2.2.2.1 u11.2.2.2.2.2.2.2.2.1 u11.2.2.2.2.2.2.2.2.2 om_text om_signs om_at om_isWrong om_clauses om_letters om_one om_two om_three om_whys om_backs om_sorts om_sizes om_items n u11.2.2.2.2.1 j5 hn hs0 (by omega) hlj5) ⟨Nat.le_of_ble_eq_true rfl, Nat.le_of_ble_eq_true rfl⟩ ⟨Nat.zero_le _, Nat.zero_le _⟩ hP rfl rfl hl.1 rfl (Nat.le_of_ble_eq_true rfl) dX7_of_150 ?_
                      refine iald_n hx hb hKX hP 9 rfl (hrg j5 (by omega)).1 (hrg j5 (by omega)).2 (by decide) dX7_of_153 ?_
                      exact W.iret (v := (u11.2.2.2.2.2.2.1 ((f_X7_rungAt u11.2.2.2.1 u11.2.2.2.2.1 j5).toNatClampNeg))) hx hb hr (fun t ht hW => ⟨⟨(u11.2.2.2.2.2.2.1 ((f_X7_rungAt u11.2.2.2.1 u11.2.2.2.2.1 j5).toNatClampNeg)), u11, rfl, by subst hw11; unfold f_X7_of; (try simp only [hj5]); rw [if_neg c1, if_neg c2, if_neg c3, if_neg c4, if_neg c5, if_neg c6, if_neg c7, if_neg c8, if_neg c9, if_pos c10] <;> rfl, by rw [ht]; exact hP, hD⟩, hS.F ht⟩) hS.2.2 dX7_of_154
                    · by_cases c11 : what = (9 : Int32)
                      · refine lv_tableIn (tgt := 155) hx hb dX7_of_15 (by rw [c11]; decide) (by rw [c11]; decide) (by rw [c11]; rfl) (by decide) ?_
                        refine lv_aload_n hx hb dX7_of_155 rfl (lv_at hl 0 rfl) ?_
                        refine gf_X7_37 hx hb hG hown hKX hP 0 rfl rfl dX7_of_156 ?_
                        refine lv_iload_n hx hb dX7_of_159 rfl (lv_at hl 1 rfl) ?_
                        refine iald_n hx hb hKX hP 8 rfl rfl (by omega) (by decide) dX7_of_160 ?_
                        exact W.iret (v := (u11.2.2.2.2.2.1 j5)) hx hb hr (fun t ht hW => ⟨⟨(u11.2.2.2.2.2.1 j5), u11, rfl, by subst hw11; unfold f_X7_of; (try simp only [hj5]); rw [if_neg c1, if_neg c2, if_neg c3, if_neg c4, if_neg c5, if_neg c6, if_neg c7, if_neg c8, if_neg c9, if_neg c10, if_pos c11] <;> rfl, by rw [ht]; exact hP, hD⟩, hS.F ht⟩) hS.2.2 dX7_of_161
                      · refine lv_tableOut (tgt := 162) hx hb dX7_of_15 (by have q0 := ne_t c2 (z := 0) (by decide); have q1 := ne_t c3 (z := 1) (by decide); have q2 := ne_t c4 (z := 2) (by decide); have q3 := ne_t c5 (z := 3) (by decide); have q4 := ne_t c6 (z := 4) (by decide); have q5 := ne_t c7 (z := 5) (by decide); have q6 := ne_t c8 (z := 6) (by decide); have q7 := ne_t c9 (z := 7) (by decide); have q8 := ne_t c10 (z := 8) (by decide); have q9 := ne_t c11 (z := 9) (by decide); omega) (by decide) ?_
                        refine lv_iconst (v := (-1 : Int32)) hx hb dX7_of_162 (by decide) ?_
                        exact W.iret (v := (-1 : Int32)) hx hb hr (fun t ht hW => ⟨⟨(-1 : Int32), u11, rfl, by subst hw11; unfold f_X7_of; (try simp only [hj5]); rw [if_neg c1, if_neg c2, if_neg c3, if_neg c4, if_neg c5, if_neg c6, if_neg c7, if_neg c8, if_neg c9, if_neg c10, if_neg c11] <;> rfl, by rw [ht]; exact hP, hD⟩, hS.F ht⟩) hS.2.2 dX7_of_163
  · refine lv_iconst (v := (-1 : Int32)) hx hb dX7_of_8 (by decide) ?_
    exact W.iret (v := (-1 : Int32)) hx hb hr (fun t ht hW => ⟨⟨(-1 : Int32), (om_reaches, om_ringOf, om_rungOf, om_rings, r, om_paid, om_leftOf, om_ringPaid, om_paidAll, om_mosts), rfl, by unfold f_X7_of; rw [if_pos c1] <;> rfl, by rw [ht]; exact hP, hD⟩, hS.F ht⟩) hS.2.2 dX7_of_9
def f_X7_pays (om_s : Nat → Int32) (om_reaches : Nat → Int32) (om_ringOf : Nat → Int32) (om_rungOf : Nat → Int32) (om_rings : Nat → Int32) (om_paid : Nat → Int32) (om_leftOf : Nat → Int32) (om_ringPaid : Nat → Int32) (om_paidAll : Int32) (om_mosts : Nat → Int32) (c : Int32) (n : Nat) (r : Nat) : Int32 × (Nat → Int32) × (Nat → Int32) × (Nat → Int32) × (Nat → Int32) × Nat × (Nat → Int32) × (Nat → Int32) × (Nat → Int32) × Int32 × (Nat → Int32) :=
  ((f_X7_of om_s om_reaches om_ringOf om_rungOf om_rings om_paid om_leftOf om_ringPaid om_paidAll om_mosts c (9 : Int32) n r).1, (f_X7_of om_s om_reaches om_ringOf om_rungOf om_rings om_paid om_leftOf om_ringPaid om_paidAll om_mosts c (9 : Int32) n r).2)
set_option maxHeartbeats 4000000 in
set_option maxRecDepth 100000 in
theorem c_X7_pays (l : Launch) (D : va_G) (cy : Nat → ClassId) (om : Nat → Nat) (om_thrown : Int32) (om_s : Nat → Int32) (om_kept : Nat → Int32) (om_aside : Nat → Int32) (om_isKept : Int32) (om_reaches : Nat → Int32) (om_ringOf : Nat → Int32) (om_rungOf : Nat → Int32) (om_rings : Nat → Int32) (om_paid : Nat → Int32) (om_leftOf : Nat → Int32) (om_ringPaid : Nat → Int32) (om_paidAll : Int32) (om_mosts : Nat → Int32) (om_text : Nat → Int32) (om_signs : Int32) (om_at : Int32) (om_isWrong : Int32) (om_clauses : Int32) (om_letters : Nat → Int32) (om_one : Nat → Int32) (om_two : Nat → Int32) (om_three : Nat → Int32) (om_whys : Nat → Int32) (om_backs : Nat → Int32) (om_sorts : Nat → Int32) (om_sizes : Nat → Int32) (om_items : Nat → Int64) (c : Int32) (n : Nat) (r : Nat) (hn : n ≤ 6) (hs0 : om_s 0 = nI n) : RwI (S := (Nat → Int32) × (Nat → Int32) × (Nat → Int32) × (Nat → Int32) × Nat × (Nat → Int32) × (Nat → Int32) × (Nat → Int32) × Int32 × (Nat → Int32)) l D cy yX7_pays (.code yX7_pays cX7_pays 2 (some .int)) 6 (wX7 cy om om_thrown om_s om_kept om_aside om_isKept om_reaches om_ringOf om_rungOf om_rings (nI r) om_paid om_leftOf om_ringPaid om_paidAll om_mosts om_text om_signs om_at om_isWrong om_clauses om_letters om_one om_two om_three om_whys om_backs om_sorts om_sizes om_items) [.ref (om 0), .int c] (fun rr u => (rr, u) = f_X7_pays om_s om_reaches om_ringOf om_rungOf om_rings om_paid om_leftOf om_ringPaid om_paidAll om_mosts c n r) (fun u => wX7 cy om om_thrown om_s om_kept om_aside om_isKept u.1 u.2.1 u.2.2.1 u.2.2.2.1 (nI u.2.2.2.2.1) u.2.2.2.2.2.1 u.2.2.2.2.2.2.1 u.2.2.2.2.2.2.2.1 u.2.2.2.2.2.2.2.2.1 u.2.2.2.2.2.2.2.2.2 om_text om_signs om_at om_isWrong om_clauses om_letters om_one om_two om_three om_whys om_backs om_sorts om_sizes om_items) := by
  intro sz
  refine Met.ofW (cc := cX7_pays) (maxL := 2) (ret := (some .int)) (by decide) rfl ?_
  intro pP eE s0 mM args below meth cC s₁ B hml hv
  obtain ⟨rfl, hsz, hP, hKX, hD0⟩ := hv
  have hx := B.exec
  have hb := B.bytes
  have hr := B.returns
  have hG := gw_hts (atoms_spec (ws := _) B.pre)
  have hown : s0.vm.findClass RX7 = some mM.cls := findClass_of_methodNamed B.named
  have hlocks := B.notSynchronized
  subst hsz
  have hD := hD0.self (sz := s0.heap.size)
  generalize hAe : va_A (wX7 cy om om_thrown om_s om_kept om_aside om_isKept om_reaches om_ringOf om_rungOf om_rings (nI r) om_paid om_leftOf om_ringPaid om_paidAll om_mosts om_text om_signs om_at om_isWrong om_clauses om_letters om_one om_two om_three om_whys om_backs om_sorts om_sizes om_items) s0.heap.size = A at hD ⊢
  have hA : ∀ q : Nat, s0.heap.size ≤ q → A q := fun q h => by rw [← hAe]; exact Or.inr h
  have hS : va_S A s0.heap s0.heap [] := va_S.rf
  have hl := lv_entry ([.ref (om 0), .int c]) (n := 2) (Nat.le_of_ble_eq_true rfl)
  rw [lg_entry_eq]
  generalize (lg_sl ([.ref (om 0), .int c]) ++ List.replicate (2 - (lg_sl ([.ref (om 0), .int c])).length) Slot.unset).toArray = ls at hl ⊢
  have hl : lv_has ls 2 [(0, .ref (om 0)), (1, .int c)] := hl
  refine lv_aload_n hx hb dX7_pays_0 rfl (lv_at hl 0 rfl) ?_
  refine lv_iload_n hx hb dX7_pays_1 rfl (lv_at hl 1 rfl) ?_
  refine lv_bipush (v := (9 : Int32)) hx hb dX7_pays_2 (by decide) ?_
  refine cRwV (q0 := 0) (ci := 7) mw20_22 mw14_6 mw14_7 mw1_5 mw14_8 rfl rfl hd_X7_of hx hb hml hown hG hKX (c_X7_of l D cy om om_thrown om_s om_kept om_aside om_isKept om_reaches om_ringOf om_rungOf om_rings om_paid om_leftOf om_ringPaid om_paidAll om_mosts om_text om_signs om_at om_isWrong om_clauses om_letters om_one om_two om_three om_whys om_backs om_sorts om_sizes om_items c (9 : Int32) n r hn hs0) ⟨Nat.le_of_ble_eq_true rfl, Nat.le_of_ble_eq_true rfl⟩ ⟨Nat.zero_le _, Nat.zero_le _⟩ hP hD hS hA [0, 1, 2, 3, 4, 5, 6, 7, 8, 9, 10, 11, 12, 13, 14, 15, 16, 17, 18, 19, 20, 21] [] [0, 1, 2, 3, 4, 5, 6, 7, 8, 9, 10, 11, 12, 13, 14, 15, 16, 17, 18, 19, 20, 21] (wr := []) (wn := fun u4 => wX7 cy om om_thrown om_s om_kept om_aside om_isKept u4.1 u4.2.1 u4.2.2.1 u4.2.2.2.1 (nI u4.2.2.2.2.1) u4.2.2.2.2.2.1 u4.2.2.2.2.2.2.1 u4.2.2.2.2.2.2.2.1 u4.2.2.2.2.2.2.2.2.1 u4.2.2.2.2.2.2.2.2.2 om_text om_signs om_at om_isWrong om_clauses om_letters om_one om_two om_three om_whys om_backs om_sorts om_sizes om_items) rfl (by decide) rfl (by decide) (by decide) (fun _ => rfl) (by decide) rfl rfl hl.1 rfl (Nat.le_of_ble_eq_true rfl) dX7_pays_4 (fun r4 u4 H locs hw4 hP hD hS => ?_)
  exact W.iret (v := r4) hx hb hr (fun t ht hW => ⟨⟨r4, u4, rfl, by obtain rfl := congrArg Prod.fst hw4; obtain rfl := congrArg Prod.snd hw4; unfold f_X7_pays; rfl, by rw [ht]; exact hP, hD⟩, hS.F ht⟩) hS.2.2 dX7_pays_7
def bd_X7_ring_73 (j33 : Nat) (u1 : (Nat → Int32) × (Nat → Int32) × (Nat → Int32) × (Nat → Int32) × Nat × (Nat → Int32) × (Nat → Int32) × (Nat → Int32) × Int32 × (Nat → Int32)) (k73 : Nat) : Option (Int32 × (Nat → Int32) × (Nat → Int32) × (Nat → Int32) × (Nat → Int32) × Nat × (Nat → Int32) × (Nat → Int32) × (Nat → Int32) × Int32 × (Nat → Int32)) :=
  if (f_X7_has (u1.2.2.2.1 j33) (nI k73)) = (0 : Int32) then none else (some ((u1.2.2.1 k73), u1))
def f_X7_ring (om_s : Nat → Int32) (om_reaches : Nat → Int32) (om_ringOf : Nat → Int32) (om_rungOf : Nat → Int32) (om_rings : Nat → Int32) (om_paid : Nat → Int32) (om_leftOf : Nat → Int32) (om_ringPaid : Nat → Int32) (om_mosts : Nat → Int32) (k : Int32) (what : Int32) (n : Nat) : Int32 × (Nat → Int32) × (Nat → Int32) × (Nat → Int32) × (Nat → Int32) × Nat × (Nat → Int32) × (Nat → Int32) × (Nat → Int32) × Int32 × (Nat → Int32) :=
  if (f_X7_in ((k).toInt64) (0 : Int64) (((nI (f_X7_pay om_s om_reaches om_ringOf om_rungOf om_rings om_paid om_leftOf om_ringPaid om_mosts n).2.2.2.2.1 - (1 : Int32))).toInt64)) = (0 : Int32) then ((-1 : Int32), (f_X7_pay om_s om_reaches om_ringOf om_rungOf om_rings om_paid om_leftOf om_ringPaid om_mosts n)) else (if (f_X7_in ((what).toInt64) (0 : Int64) (3 : Int64)) = (0 : Int32) then ((-1 : Int32), (f_X7_pay om_s om_reaches om_ringOf om_rungOf om_rings om_paid om_leftOf om_ringPaid om_mosts n)) else (if what = (0 : Int32) then (((f_X7_pay om_s om_reaches om_ringOf om_rungOf om_rings om_paid om_leftOf om_ringPaid om_mosts n).2.2.2.1 k.toNatClampNeg), (f_X7_pay om_s om_reaches om_ringOf om_rungOf om_rings om_paid om_leftOf om_ringPaid om_mosts n)) else (if what ≤ (1 : Int32) then ((srch (bd_X7_ring_73 k.toNatClampNeg (f_X7_pay om_s om_reaches om_ringOf om_rungOf om_rings om_paid om_leftOf om_ringPaid om_mosts n)) n 0).getD ((-1 : Int32), (f_X7_pay om_s om_reaches om_ringOf om_rungOf om_rings om_paid om_leftOf om_ringPaid om_mosts n))) else (if what = (2 : Int32) then (((f_X7_pay om_s om_reaches om_ringOf om_rungOf om_rings om_paid om_leftOf om_ringPaid om_mosts n).2.2.2.2.2.2.1 k.toNatClampNeg), (f_X7_pay om_s om_reaches om_ringOf om_rungOf om_rings om_paid om_leftOf om_ringPaid om_mosts n)) else (((f_X7_pay om_s om_reaches om_ringOf om_rungOf om_rings om_paid om_leftOf om_ringPaid om_mosts n).2.2.2.2.2.2.2.1 k.toNatClampNeg), (f_X7_pay om_s om_reaches om_ringOf om_rungOf om_rings om_paid om_leftOf om_ringPaid om_mosts n))))))
set_option maxHeartbeats 4000000 in
set_option maxRecDepth 100000 in
theorem c_X7_ring (l : Launch) (D : va_G) (cy : Nat → ClassId) (om : Nat → Nat) (om_thrown : Int32) (om_s : Nat → Int32) (om_kept : Nat → Int32) (om_aside : Nat → Int32) (om_isKept : Int32) (om_reaches : Nat → Int32) (om_ringOf : Nat → Int32) (om_rungOf : Nat → Int32) (om_rings : Nat → Int32) (om_paid : Nat → Int32) (om_leftOf : Nat → Int32) (om_ringPaid : Nat → Int32) (om_paidAll : Int32) (om_mosts : Nat → Int32) (om_text : Nat → Int32) (om_signs : Int32) (om_at : Int32) (om_isWrong : Int32) (om_clauses : Int32) (om_letters : Nat → Int32) (om_one : Nat → Int32) (om_two : Nat → Int32) (om_three : Nat → Int32) (om_whys : Nat → Int32) (om_backs : Nat → Int32) (om_sorts : Nat → Int32) (om_sizes : Nat → Int32) (om_items : Nat → Int64) (k : Int32) (what : Int32) (n : Nat) (r : Nat) (hn : n ≤ 6) (hs0 : om_s 0 = nI n) : RwI (S := (Nat → Int32) × (Nat → Int32) × (Nat → Int32) × (Nat → Int32) × Nat × (Nat → Int32) × (Nat → Int32) × (Nat → Int32) × Int32 × (Nat → Int32)) l D cy yX7_ring (.code yX7_ring cX7_ring 4 (some .int)) 5 (wX7 cy om om_thrown om_s om_kept om_aside om_isKept om_reaches om_ringOf om_rungOf om_rings (nI r) om_paid om_leftOf om_ringPaid om_paidAll om_mosts om_text om_signs om_at om_isWrong om_clauses om_letters om_one om_two om_three om_whys om_backs om_sorts om_sizes om_items) [.ref (om 0), .int k, .int what] (fun rr u => (rr, u) = f_X7_ring om_s om_reaches om_ringOf om_rungOf om_rings om_paid om_leftOf om_ringPaid om_mosts k what n) (fun u => wX7 cy om om_thrown om_s om_kept om_aside om_isKept u.1 u.2.1 u.2.2.1 u.2.2.2.1 (nI u.2.2.2.2.1) u.2.2.2.2.2.1 u.2.2.2.2.2.2.1 u.2.2.2.2.2.2.2.1 u.2.2.2.2.2.2.2.2.1 u.2.2.2.2.2.2.2.2.2 om_text om_signs om_at om_isWrong om_clauses om_letters om_one om_two om_three om_whys om_backs om_sorts om_sizes om_items) := by
  intro sz
  refine Met.ofW (cc := cX7_ring) (maxL := 4) (ret := (some .int)) (by decide) rfl ?_
  intro pP eE s0 mM args below meth cC s₁ B hml hv
  obtain ⟨rfl, hsz, hP, hKX, hD0⟩ := hv
  have hx := B.exec
  have hb := B.bytes
  have hr := B.returns
  have hG := gw_hts (atoms_spec (ws := _) B.pre)
  have hown : s0.vm.findClass RX7 = some mM.cls := findClass_of_methodNamed B.named
  have hlocks := B.notSynchronized
  subst hsz
  have hD := hD0.self (sz := s0.heap.size)
  generalize hAe : va_A (wX7 cy om om_thrown om_s om_kept om_aside om_isKept om_reaches om_ringOf om_rungOf om_rings (nI r) om_paid om_leftOf om_ringPaid om_paidAll om_mosts om_text om_signs om_at om_isWrong om_clauses om_letters om_one om_two om_three om_whys om_backs om_sorts om_sizes om_items) s0.heap.size = A at hD ⊢
  have hA : ∀ q : Nat, s0.heap.size ≤ q → A q := fun q h => by rw [← hAe]; exact Or.inr h
  have hS : va_S A s0.heap s0.heap [] := va_S.rf
  have hl := lv_entry ([.ref (om 0), .int k, .int what]) (n := 4) (Nat.le_of_ble_eq_true rfl)
  rw [lg_entry_eq]
  generalize (lg_sl ([.ref (om 0), .int k, .int what]) ++ List.replicate (4 - (lg_sl ([.ref (om 0), .int k, .int what])).length) Slot.unset).toArray = ls at hl ⊢
  have hl : lv_has ls 4 [(0, .ref (om 0)), (1, .int k), (2, .int what)] := hl
  refine lv_aload_n hx hb dX7_ring_0 rfl (lv_at hl 0 rfl) ?_
  refine cRwVV (q0 := 0) (ci := 7) mw14_9 mw14_10 mw14_11 mw1_5 mw14_12 rfl rfl hd_X7_pay hx hb hml hown hG hKX (c_X7_pay l D cy om om_thrown om_s om_kept om_aside om_isKept om_reaches om_ringOf om_rungOf om_rings (nI r) om_paid om_leftOf om_ringPaid om_paidAll om_mosts om_text om_signs om_at om_isWrong om_clauses om_letters om_one om_two om_three om_whys om_backs om_sorts om_sizes om_items n hn hs0) ⟨Nat.le_of_ble_eq_true rfl, Nat.le_of_ble_eq_true rfl⟩ ⟨Nat.zero_le _, Nat.zero_le _⟩ hP hD hS hA [0, 1, 2, 3, 4, 5, 6, 7, 8, 9, 10, 11, 12, 13, 14, 15, 16, 17, 18, 19, 20, 21] [] [0, 1, 2, 3, 4, 5, 6, 7, 8, 9, 10, 11, 12, 13, 14, 15, 16, 17, 18, 19, 20, 21] (wr := []) (wn := fun u1 => wX7 cy om om_thrown om_s om_kept om_aside om_isKept u1.1 u1.2.1 u1.2.2.1 u1.2.2.2.1 (nI u1.2.2.2.2.1) u1.2.2.2.2.2.1 u1.2.2.2.2.2.2.1 u1.2.2.2.2.2.2.2.1 u1.2.2.2.2.2.2.2.2.1 u1.2.2.2.2.2.2.2.2.2 om_text om_signs om_at om_isWrong om_clauses om_letters om_one om_two om_three om_whys om_backs om_sorts om_sizes om_items) rfl (by decide) rfl (by decide) (by decide) (fun _ => rfl) (by decide) rfl rfl hl.1 rfl (Nat.le_of_ble_eq_true rfl) dX7_ring_1 (fun u1 H locs hw1 hP hD hS => ?_)
  have hrl : u1.2.2.2.2.1 ≤ 6 := by subst hw1; exact pay_le hn
  have hrg : ∀ k, k < n → (f_X7_rungAt u1.2.2.2.1 u1.2.2.2.2.1 k) = nI (f_X7_rungAt u1.2.2.2.1 u1.2.2.2.2.1 k).toNatClampNeg ∧ (f_X7_rungAt u1.2.2.2.1 u1.2.2.2.2.1 k).toNatClampNeg < 6 := by subst hw1; exact pay_rung hn
  refine lv_iload_n hx hb dX7_ring_4 rfl (lv_at hl 1 rfl) ?_
  refine lv_i2l (v := ((k).toInt64)) hx hb dX7_ring_5 rfl ?_
  refine lv_lconst (v := (0 : Int64)) hx hb dX7_ring_6 (by decide) ?_
  refine lv_aload_n hx hb dX7_ring_7 rfl (lv_at hl 0 rfl) ?_
  refine gf_X7_115 hx hb hG hown hKX hP 0 rfl rfl dX7_ring_8 ?_
  refine lv_iconst (v := (1 : Int32)) hx hb dX7_ring_11 (by decide) ?_
  refine lv_isub hx hb dX7_ring_12 ?_
  refine lv_i2l (v := (((nI u1.2.2.2.2.1 - (1 : Int32))).toInt64)) hx hb dX7_ring_13 rfl ?_
  refine cRoS mw7_3 mw7_4 mw1_5 mw7_5 hd_X7_in hx hb hml hown hG hKX (c_X7_in l D cy ((k).toInt64) (0 : Int64) (((nI u1.2.2.2.2.1 - (1 : Int32))).toInt64)) ⟨Nat.le_of_ble_eq_true rfl, Nat.le_of_ble_eq_true rfl⟩ ⟨Nat.zero_le _, Nat.zero_le _⟩ (hP.sub [] rfl) rfl hl.1 rfl (Nat.le_of_ble_eq_true rfl) dX7_ring_14 ?_
  refine lv_if_eq (tgt := 32) hx hb dX7_ring_17 (by decide) (fun c1 => ?_) (fun c1 => ?_)
  · refine lv_iconst (v := (-1 : Int32)) hx hb dX7_ring_32 (by decide) ?_
    exact W.iret (v := (-1 : Int32)) hx hb hr (fun t ht hW => ⟨⟨(-1 : Int32), u1, rfl, by subst hw1; unfold f_X7_ring; rw [if_pos c1] <;> rfl, by rw [ht]; exact hP, hD⟩, hS.F ht⟩) hS.2.2 dX7_ring_33
  · obtain ⟨j33, hj33, hlj33, rfl⟩ := inN_of (n := u1.2.2.2.2.1) (by omega) c1
    refine lv_iload_n hx hb dX7_ring_20 rfl (lv_at hl 2 rfl) ?_
    refine lv_i2l (v := ((what).toInt64)) hx hb dX7_ring_21 rfl ?_
    refine lv_lconst (v := (0 : Int64)) hx hb dX7_ring_22 (by decide) ?_
    refine lv_ldc2 (v := (3 : Int64)) hx hb hown (hG _ mw7_0) dX7_ring_23 ?_
    refine cRoS mw7_3 mw7_4 mw1_5 mw7_5 hd_X7_in hx hb hml hown hG hKX (c_X7_in l D cy ((what).toInt64) (0 : Int64) (3 : Int64)) ⟨Nat.le_of_ble_eq_true rfl, Nat.le_of_ble_eq_true rfl⟩ ⟨Nat.zero_le _, Nat.zero_le _⟩ (hP.sub [] rfl) rfl hl.1 rfl (Nat.le_of_ble_eq_true rfl) dX7_ring_26 ?_
    refine lv_if_ne (tgt := 34) hx hb dX7_ring_29 (by decide) (fun c2 => ?_) (fun c2 => ?_)
    · refine lv_iload_n hx hb dX7_ring_34 rfl (lv_at hl 2 rfl) ?_
      refine lv_if_ne (tgt := 45) hx hb dX7_ring_35 (by decide) (fun c3 => ?_) (fun c3 => ?_)
      · refine lv_iload_n hx hb dX7_ring_45 rfl (lv_at hl 2 rfl) ?_
        refine lv_iconst (v := (1 : Int32)) hx hb dX7_ring_46 (by decide) ?_
        refine lv_icmp_le (tgt := 71) hx hb dX7_ring_47 (by decide) (fun c4 => ?_) (fun c4 => ?_)
        · refine lv_iconst (v := (0 : Int32)) hx hb dX7_ring_71 (by decide) ?_
          refine lv_istore_n (lv' := [(3, .int (0 : Int32)), (0, .ref (om 0)), (1, .int (nI j33)), (2, .int what)]) hx hb dX7_ring_72 rfl hl (by decide) rfl (fun ls hl => ?_)
          refine loopS (bd_X7_ring_73 j33 u1) n (fun k73 => [(3, .int (nI k73)), (0, .ref (om 0)), (1, .int (nI j33)), (2, .int what)]) (lv_sub hl [0, 1, 2, 3] rfl) (fun k73 ls hk73 hz73 hl ih73 => ?_)
          refine lv_iload_n hx hb dX7_ring_73 rfl (lv_at hl 0 rfl) ?_
          refine lv_aload_n hx hb dX7_ring_74 rfl (lv_at hl 1 rfl) ?_
          refine gf_X7_15 hx hb hG hown hKX hP 0 rfl rfl dX7_ring_75 ?_
          refine lv_iconst (v := (0 : Int32)) hx hb dX7_ring_78 (by decide) ?_
          refine iald_v hx hb hKX hP 1 rfl rfl (by decide) (by decide) hs0 dX7_ring_79 ?_
          refine lv_icmp_ge (tgt := 109) hx hb dX7_ring_80 (by decide) (fun c5 => ?_) (fun c5 => ?_)
          · have e_k73 : n = k73 := Nat.le_antisymm ((le_n (N := n) (k := k73) rfl (by omega) (by omega)).mp c5) hk73
            subst e_k73
            refine lv_iconst (v := (-1 : Int32)) hx hb dX7_ring_109 (by decide) ?_
            exact W.iret (v := (-1 : Int32)) hx hb hr (fun t ht hW => ⟨⟨(-1 : Int32), u1, rfl, by subst hw1; unfold f_X7_ring; (try simp only [hj33]); rw [if_neg c1, if_neg c2, if_neg c3, if_pos c4, srch_none hz73, Option.getD_none] <;> rfl, by rw [ht]; exact hP, hD⟩, hS.F ht⟩) hS.2.2 dX7_ring_110
          · have hlt73 : k73 < n := Nat.lt_of_not_le (fun qq_ => c5 ((le_n (N := n) (k := k73) rfl (by omega) (by omega)).mpr qq_))
            refine lv_aload_n hx hb dX7_ring_83 rfl (lv_at hl 1 rfl) ?_
            refine gf_X7_34 hx hb hG hown hKX hP 0 rfl rfl dX7_ring_84 ?_
            refine lv_iload_n hx hb dX7_ring_87 rfl (lv_at hl 2 rfl) ?_
            refine iald_n hx hb hKX hP 7 rfl rfl (by omega) (by decide) dX7_ring_88 ?_
            refine lv_iload_n hx hb dX7_ring_89 rfl (lv_at hl 0 rfl) ?_
            refine cRoS mw14_23 mw15_0 mw1_5 mw15_1 hd_X7_has hx hb hml hown hG hKX (c_X7_has l D cy (u1.2.2.2.1 j33) (nI k73)) ⟨Nat.le_of_ble_eq_true rfl, Nat.le_of_ble_eq_true rfl⟩ ⟨Nat.zero_le _, Nat.zero_le _⟩ (hP.sub [] rfl) rfl hl.1 rfl (Nat.le_of_ble_eq_true rfl) dX7_ring_90 ?_
            refine lv_if_eq (tgt := 103) hx hb dX7_ring_93 (by decide) (fun c6 => ?_) (fun c6 => ?_)
            · refine lv_iinc (v := nI (k73 + 1)) (lv' := [(3, .int (nI (k73 + 1))), (0, .ref (om 0)), (1, .int (nI j33)), (2, .int what)]) hx hb dX7_ring_103 hl (k := 0) rfl (nI_1 _) (by decide) rfl (fun ls hl => ?_)
              refine lv_goto (tgt := 73) hx hb dX7_ring_106 (by decide) ?_
              exact ih73 _ hlt73 (by subst hw1; unfold bd_X7_ring_73; (try simp only [hj33]); rw [if_pos c6] <;> rfl) (lv_sub hl [0, 1, 2, 3] rfl)
            · refine lv_aload_n hx hb dX7_ring_96 rfl (lv_at hl 1 rfl) ?_
              refine gf_X7_31 hx hb hG hown hKX hP 0 rfl rfl dX7_ring_97 ?_
              refine lv_iload_n hx hb dX7_ring_100 rfl (lv_at hl 0 rfl) ?_
              refine iald_n hx hb hKX hP 6 rfl rfl (by omega) (by decide) dX7_ring_101 ?_
              exact W.iret (v := (u1.2.2.1 k73)) hx hb hr (fun t ht hW => ⟨⟨(u1.2.2.1 k73), u1, rfl, by subst hw1; unfold f_X7_ring; (try simp only [hj33]); rw [if_neg c1, if_neg c2, if_neg c3, if_pos c4, srch_some (r := (((f_X7_pay om_s om_reaches om_ringOf om_rungOf om_rings om_paid om_leftOf om_ringPaid om_mosts n).2.2.1 k73), (f_X7_pay om_s om_reaches om_ringOf om_rungOf om_rings om_paid om_leftOf om_ringPaid om_mosts n))) hz73 hlt73 (by unfold bd_X7_ring_73; (try simp only [hj33]); rw [if_neg c6] <;> rfl), Option.getD_some] <;> rfl, by rw [ht]; exact hP, hD⟩, hS.F ht⟩) hS.2.2 dX7_ring_102
        · refine lv_iload_n hx hb dX7_ring_50 rfl (lv_at hl 2 rfl) ?_
          refine lv_iconst (v := (2 : Int32)) hx hb dX7_ring_51 (by decide) ?_
          refine lv_icmp_ne (tgt := 64) hx hb dX7_ring_52 (by decide) (fun c7 => ?_) (fun c7 => ?_)
          · refine lv_aload_n hx hb dX7_ring_64 rfl (lv_at hl 0 rfl) ?_
            refine gf_X7_43 hx hb hG hown hKX hP 0 rfl rfl dX7_ring_65 ?_
            refine lv_iload_n hx hb dX7_ring_68 rfl (lv_at hl 1 rfl) ?_
            refine iald_n hx hb hKX hP 10 rfl rfl (by omega) (by decide) dX7_ring_69 ?_
            exact W.iret (v := (u1.2.2.2.2.2.2.2.1 j33)) hx hb hr (fun t ht hW => ⟨⟨(u1.2.2.2.2.2.2.2.1 j33), u1, rfl, by subst hw1; unfold f_X7_ring; (try simp only [hj33]); rw [if_neg c1, if_neg c2, if_neg c3, if_neg c4, if_neg c7] <;> rfl, by rw [ht]; exact hP, hD⟩, hS.F ht⟩) hS.2.2 dX7_ring_70
          · refine lv_aload_n hx hb dX7_ring_55 rfl (lv_at hl 0 rfl) ?_
            refine gf_X7_40 hx hb hG hown hKX hP 0 rfl rfl dX7_ring_56 ?_
            refine lv_iload_n hx hb dX7_ring_59 rfl (lv_at hl 1 rfl) ?_
            refine iald_n hx hb hKX hP 9 rfl rfl (by omega) (by decide) dX7_ring_60 ?_
            refine lv_goto (tgt := 70) hx hb dX7_ring_61 (by decide) ?_
            exact W.iret (v := (u1.2.2.2.2.2.2.1 j33)) hx hb hr (fun t ht hW => ⟨⟨(u1.2.2.2.2.2.2.1 j33), u1, rfl, by subst hw1; unfold f_X7_ring; (try simp only [hj33]); rw [if_neg c1, if_neg c2, if_neg c3, if_neg c4, if_pos c7] <;> rfl, by rw [ht]; exact hP, hD⟩, hS.F ht⟩) hS.2.2 dX7_ring_70
      · refine lv_aload_n hx hb dX7_ring_38 rfl (lv_at hl 0 rfl) ?_
        refine gf_X7_34 hx hb hG hown hKX hP 0 rfl rfl dX7_ring_39 ?_
        refine lv_iload_n hx hb dX7_ring_42 rfl (lv_at hl 1 rfl) ?_
        refine iald_n hx hb hKX hP 7 rfl rfl (by omega) (by decide) dX7_ring_43 ?_
        exact W.iret (v := (u1.2.2.2.1 j33)) hx hb hr (fun t ht hW => ⟨⟨(u1.2.2.2.1 j33), u1, rfl, by subst hw1; unfold f_X7_ring; (try simp only [hj33]); rw [if_neg c1, if_neg c2, if_pos c3] <;> rfl, by rw [ht]; exact hP, hD⟩, hS.F ht⟩) hS.2.2 dX7_ring_44
    · refine lv_iconst (v := (-1 : Int32)) hx hb dX7_ring_32 (by decide) ?_
      exact W.iret (v := (-1 : Int32)) hx hb hr (fun t ht hW => ⟨⟨(-1 : Int32), u1, rfl, by subst hw1; unfold f_X7_ring; (try simp only [hj33]); rw [if_neg c1, if_pos c2] <;> rfl, by rw [ht]; exact hP, hD⟩, hS.F ht⟩) hS.2.2 dX7_ring_33
def f_X7_told (om_s : Nat → Int32) (om_reaches : Nat → Int32) (om_ringOf : Nat → Int32) (om_rungOf : Nat → Int32) (om_rings : Nat → Int32) (om_paid : Nat → Int32) (om_leftOf : Nat → Int32) (om_ringPaid : Nat → Int32) (om_mosts : Nat → Int32) (what : Int32) (n : Nat) : Int32 × (Nat → Int32) × (Nat → Int32) × (Nat → Int32) × (Nat → Int32) × Nat × (Nat → Int32) × (Nat → Int32) × (Nat → Int32) × Int32 × (Nat → Int32) :=
  if what = (0 : Int32) then (nI n, (f_X7_pay om_s om_reaches om_ringOf om_rungOf om_rings om_paid om_leftOf om_ringPaid om_mosts n)) else (if what = (1 : Int32) then ((om_s 1), (f_X7_pay om_s om_reaches om_ringOf om_rungOf om_rings om_paid om_leftOf om_ringPaid om_mosts n)) else (if what = (2 : Int32) then ((f_X7_pay om_s om_reaches om_ringOf om_rungOf om_rings om_paid om_leftOf om_ringPaid om_mosts n).2.2.2.2.2.2.2.2.1, (f_X7_pay om_s om_reaches om_ringOf om_rungOf om_rings om_paid om_leftOf om_ringPaid om_mosts n)) else (if what = (3 : Int32) then (((om_s 1) - (f_X7_pay om_s om_reaches om_ringOf om_rungOf om_rings om_paid om_leftOf om_ringPaid om_mosts n).2.2.2.2.2.2.2.2.1), (f_X7_pay om_s om_reaches om_ringOf om_rungOf om_rings om_paid om_leftOf om_ringPaid om_mosts n)) else (if what = (4 : Int32) then (nI (f_X7_pay om_s om_reaches om_ringOf om_rungOf om_rings om_paid om_leftOf om_ringPaid om_mosts n).2.2.2.2.1, (f_X7_pay om_s om_reaches om_ringOf om_rungOf om_rings om_paid om_leftOf om_ringPaid om_mosts n)) else (if what = (5 : Int32) then ((f_X7_severals (f_X7_pay om_s om_reaches om_ringOf om_rungOf om_rings om_paid om_leftOf om_ringPaid om_mosts n).2.2.2.1 (f_X7_pay om_s om_reaches om_ringOf om_rungOf om_rings om_paid om_leftOf om_ringPaid om_mosts n).2.2.2.2.1), (f_X7_pay om_s om_reaches om_ringOf om_rungOf om_rings om_paid om_leftOf om_ringPaid om_mosts n)) else (if what = (6 : Int32) then ((f_X7_greatestRung (f_X7_pay om_s om_reaches om_ringOf om_rungOf om_rings om_paid om_leftOf om_ringPaid om_mosts n).2.2.1 n), (f_X7_pay om_s om_reaches om_ringOf om_rungOf om_rings om_paid om_leftOf om_ringPaid om_mosts n)) else (if what = (7 : Int32) then ((f_X7_payers (f_X7_pay om_s om_reaches om_ringOf om_rungOf om_rings om_paid om_leftOf om_ringPaid om_mosts n).2.2.2.2.2.1 n), (f_X7_pay om_s om_reaches om_ringOf om_rungOf om_rings om_paid om_leftOf om_ringPaid om_mosts n)) else (if what = (8 : Int32) then ((f_X7_references om_s n), (f_X7_pay om_s om_reaches om_ringOf om_rungOf om_rings om_paid om_leftOf om_ringPaid om_mosts n)) else ((-1 : Int32), (f_X7_pay om_s om_reaches om_ringOf om_rungOf om_rings om_paid om_leftOf om_ringPaid om_mosts n))))))))))
set_option maxHeartbeats 4000000 in
set_option maxRecDepth 100000 in
theorem c_X7_told (l : Launch) (D : va_G) (cy : Nat → ClassId) (om : Nat → Nat) (om_thrown : Int32) (om_s : Nat → Int32) (om_kept : Nat → Int32) (om_aside : Nat → Int32) (om_isKept : Int32) (om_reaches : Nat → Int32) (om_ringOf : Nat → Int32) (om_rungOf : Nat → Int32) (om_rings : Nat → Int32) (om_paid : Nat → Int32) (om_leftOf : Nat → Int32) (om_ringPaid : Nat → Int32) (om_paidAll : Int32) (om_mosts : Nat → Int32) (om_text : Nat → Int32) (om_signs : Int32) (om_at : Int32) (om_isWrong : Int32) (om_clauses : Int32) (om_letters : Nat → Int32) (om_one : Nat → Int32) (om_two : Nat → Int32) (om_three : Nat → Int32) (om_whys : Nat → Int32) (om_backs : Nat → Int32) (om_sorts : Nat → Int32) (om_sizes : Nat → Int32) (om_items : Nat → Int64) (what : Int32) (n : Nat) (r : Nat) (hn : n ≤ 6) (hs0 : om_s 0 = nI n) : RwI (S := (Nat → Int32) × (Nat → Int32) × (Nat → Int32) × (Nat → Int32) × Nat × (Nat → Int32) × (Nat → Int32) × (Nat → Int32) × Int32 × (Nat → Int32)) l D cy yX7_told (.code yX7_told cX7_told 2 (some .int)) 5 (wX7 cy om om_thrown om_s om_kept om_aside om_isKept om_reaches om_ringOf om_rungOf om_rings (nI r) om_paid om_leftOf om_ringPaid om_paidAll om_mosts om_text om_signs om_at om_isWrong om_clauses om_letters om_one om_two om_three om_whys om_backs om_sorts om_sizes om_items) [.ref (om 0), .int what] (fun rr u => (rr, u) = f_X7_told om_s om_reaches om_ringOf om_rungOf om_rings om_paid om_leftOf om_ringPaid om_mosts what n) (fun u => wX7 cy om om_thrown om_s om_kept om_aside om_isKept u.1 u.2.1 u.2.2.1 u.2.2.2.1 (nI u.2.2.2.2.1) u.2.2.2.2.2.1 u.2.2.2.2.2.2.1 u.2.2.2.2.2.2.2.1 u.2.2.2.2.2.2.2.2.1 u.2.2.2.2.2.2.2.2.2 om_text om_signs om_at om_isWrong om_clauses om_letters om_one om_two om_three om_whys om_backs om_sorts om_sizes om_items) := by
  intro sz
  refine Met.ofW (cc := cX7_told) (maxL := 2) (ret := (some .int)) (by decide) rfl ?_
  intro pP eE s0 mM args below meth cC s₁ B hml hv
  obtain ⟨rfl, hsz, hP, hKX, hD0⟩ := hv
  have hx := B.exec
  have hb := B.bytes
  have hr := B.returns
  have hG := gw_hts (atoms_spec (ws := _) B.pre)
  have hown : s0.vm.findClass RX7 = some mM.cls := findClass_of_methodNamed B.named
  have hlocks := B.notSynchronized
  subst hsz
  have hD := hD0.self (sz := s0.heap.size)
  generalize hAe : va_A (wX7 cy om om_thrown om_s om_kept om_aside om_isKept om_reaches om_ringOf om_rungOf om_rings (nI r) om_paid om_leftOf om_ringPaid om_paidAll om_mosts om_text om_signs om_at om_isWrong om_clauses om_letters om_one om_two om_three om_whys om_backs om_sorts om_sizes om_items) s0.heap.size = A at hD ⊢
  have hA : ∀ q : Nat, s0.heap.size ≤ q → A q := fun q h => by rw [← hAe]; exact Or.inr h
  have hS : va_S A s0.heap s0.heap [] := va_S.rf
  have hl := lv_entry ([.ref (om 0), .int what]) (n := 2) (Nat.le_of_ble_eq_true rfl)
  rw [lg_entry_eq]
  generalize (lg_sl ([.ref (om 0), .int what]) ++ List.replicate (2 - (lg_sl ([.ref (om 0), .int what])).length) Slot.unset).toArray = ls at hl ⊢
  have hl : lv_has ls 2 [(0, .ref (om 0)), (1, .int what)] := hl
  refine lv_aload_n hx hb dX7_told_0 rfl (lv_at hl 0 rfl) ?_
  refine cRwVV (q0 := 0) (ci := 7) mw14_9 mw14_10 mw14_11 mw1_5 mw14_12 rfl rfl hd_X7_pay hx hb hml hown hG hKX (c_X7_pay l D cy om om_thrown om_s om_kept om_aside om_isKept om_reaches om_ringOf om_rungOf om_rings (nI r) om_paid om_leftOf om_ringPaid om_paidAll om_mosts om_text om_signs om_at om_isWrong om_clauses om_letters om_one om_two om_three om_whys om_backs om_sorts om_sizes om_items n hn hs0) ⟨Nat.le_of_ble_eq_true rfl, Nat.le_of_ble_eq_true rfl⟩ ⟨Nat.zero_le _, Nat.zero_le _⟩ hP hD hS hA [0, 1, 2, 3, 4, 5, 6, 7, 8, 9, 10, 11, 12, 13, 14, 15, 16, 17, 18, 19, 20, 21] [] [0, 1, 2, 3, 4, 5, 6, 7, 8, 9, 10, 11, 12, 13, 14, 15, 16, 17, 18, 19, 20, 21] (wr := []) (wn := fun u1 => wX7 cy om om_thrown om_s om_kept om_aside om_isKept u1.1 u1.2.1 u1.2.2.1 u1.2.2.2.1 (nI u1.2.2.2.2.1) u1.2.2.2.2.2.1 u1.2.2.2.2.2.2.1 u1.2.2.2.2.2.2.2.1 u1.2.2.2.2.2.2.2.2.1 u1.2.2.2.2.2.2.2.2.2 om_text om_signs om_at om_isWrong om_clauses om_letters om_one om_two om_three om_whys om_backs om_sorts om_sizes om_items) rfl (by decide) rfl (by decide) (by decide) (fun _ => rfl) (by decide) rfl rfl hl.1 rfl (Nat.le_of_ble_eq_true rfl) dX7_told_1 (fun u1 H locs hw1 hP hD hS => ?_)
  have hrl : u1.2.2.2.2.1 ≤ 6 := by subst hw1; exact pay_le hn
  have hrg : ∀ k, k < n → (f_X7_rungAt u1.2.2.2.1 u1.2.2.2.2.1 k) = nI (f_X7_rungAt u1.2.2.2.1 u1.2.2.2.2.1 k).toNatClampNeg ∧ (f_X7_rungAt u1.2.2.2.1 u1.2.2.2.2.1 k).toNatClampNeg < 6 := by subst hw1; exact pay_rung hn
  refine lv_iload_n hx hb dX7_told_4 rfl (lv_at hl 1 rfl) ?_
  by_cases c1 : what = (0 : Int32)
  · refine lv_tableIn (tgt := 56) hx hb dX7_told_5 (by rw [c1]; decide) (by rw [c1]; decide) (by rw [c1]; rfl) (by decide) ?_
    refine lv_aload_n hx hb dX7_told_56 rfl (lv_at hl 0 rfl) ?_
    refine gf_X7_15 hx hb hG hown hKX hP 0 rfl rfl dX7_told_57 ?_
    refine lv_iconst (v := (0 : Int32)) hx hb dX7_told_60 (by decide) ?_
    refine iald_v hx hb hKX hP 1 rfl rfl (by decide) (by decide) hs0 dX7_told_61 ?_
    exact W.iret (v := nI n) hx hb hr (fun t ht hW => ⟨⟨nI n, u1, rfl, by subst hw1; unfold f_X7_told; rw [if_pos c1] <;> rfl, by rw [ht]; exact hP, hD⟩, hS.F ht⟩) hS.2.2 dX7_told_62
  · by_cases c2 : what = (1 : Int32)
    · refine lv_tableIn (tgt := 63) hx hb dX7_told_5 (by rw [c2]; decide) (by rw [c2]; decide) (by rw [c2]; rfl) (by decide) ?_
      refine lv_aload_n hx hb dX7_told_63 rfl (lv_at hl 0 rfl) ?_
      refine gf_X7_15 hx hb hG hown hKX hP 0 rfl rfl dX7_told_64 ?_
      refine lv_iconst (v := (1 : Int32)) hx hb dX7_told_67 (by decide) ?_
      refine iald_n hx hb hKX hP 1 rfl rfl (by decide) (by decide) dX7_told_68 ?_
      exact W.iret (v := (om_s 1)) hx hb hr (fun t ht hW => ⟨⟨(om_s 1), u1, rfl, by subst hw1; unfold f_X7_told; rw [if_neg c1, if_pos c2] <;> rfl, by rw [ht]; exact hP, hD⟩, hS.F ht⟩) hS.2.2 dX7_told_69
    · by_cases c3 : what = (2 : Int32)
      · refine lv_tableIn (tgt := 70) hx hb dX7_told_5 (by rw [c3]; decide) (by rw [c3]; decide) (by rw [c3]; rfl) (by decide) ?_
        refine lv_aload_n hx hb dX7_told_70 rfl (lv_at hl 0 rfl) ?_
        refine gf_X7_142 hx hb hG hown hKX hP 0 rfl rfl dX7_told_71 ?_
        exact W.iret (v := u1.2.2.2.2.2.2.2.2.1) hx hb hr (fun t ht hW => ⟨⟨u1.2.2.2.2.2.2.2.2.1, u1, rfl, by subst hw1; unfold f_X7_told; rw [if_neg c1, if_neg c2, if_pos c3] <;> rfl, by rw [ht]; exact hP, hD⟩, hS.F ht⟩) hS.2.2 dX7_told_74
      · by_cases c4 : what = (3 : Int32)
        · refine lv_tableIn (tgt := 75) hx hb dX7_told_5 (by rw [c4]; decide) (by rw [c4]; decide) (by rw [c4]; rfl) (by decide) ?_
          refine lv_aload_n hx hb dX7_told_75 rfl (lv_at hl 0 rfl) ?_
          refine gf_X7_15 hx hb hG hown hKX hP 0 rfl rfl dX7_told_76 ?_
          refine lv_iconst (v := (1 : Int32)) hx hb dX7_told_79 (by decide) ?_
          refine iald_n hx hb hKX hP 1 rfl rfl (by decide) (by decide) dX7_told_80 ?_
          refine lv_aload_n hx hb dX7_told_81 rfl (lv_at hl 0 rfl) ?_
          refine gf_X7_142 hx hb hG hown hKX hP 0 rfl rfl dX7_told_82 ?_
          refine lv_isub hx hb dX7_told_85 ?_
          exact W.iret (v := ((om_s 1) - u1.2.2.2.2.2.2.2.2.1)) hx hb hr (fun t ht hW => ⟨⟨((om_s 1) - u1.2.2.2.2.2.2.2.2.1), u1, rfl, by subst hw1; unfold f_X7_told; rw [if_neg c1, if_neg c2, if_neg c3, if_pos c4] <;> rfl, by rw [ht]; exact hP, hD⟩, hS.F ht⟩) hS.2.2 dX7_told_86
        · by_cases c5 : what = (4 : Int32)
          · refine lv_tableIn (tgt := 87) hx hb dX7_told_5 (by rw [c5]; decide) (by rw [c5]; decide) (by rw [c5]; rfl) (by decide) ?_
            refine lv_aload_n hx hb dX7_told_87 rfl (lv_at hl 0 rfl) ?_
            refine gf_X7_115 hx hb hG hown hKX hP 0 rfl rfl dX7_told_88 ?_
            exact W.iret (v := nI u1.2.2.2.2.1) hx hb hr (fun t ht hW => ⟨⟨nI u1.2.2.2.2.1, u1, rfl, by subst hw1; unfold f_X7_told; rw [if_neg c1, if_neg c2, if_neg c3, if_neg c4, if_pos c5] <;> rfl, by rw [ht]; exact hP, hD⟩, hS.F ht⟩) hS.2.2 dX7_told_91
          · by_cases c6 : what = (5 : Int32)
            · refine lv_tableIn (tgt := 92) hx hb dX7_told_5 (by rw [c6]; decide) (by rw [c6]; decide) (by rw [c6]; rfl) (by decide) ?_
              refine lv_aload_n hx hb dX7_told_92 rfl (lv_at hl 0 rfl) ?_
              refine cRoV (q0 := 0) (ci := 7) mw22_4 mw22_5 mw22_6 mw1_5 mw22_7 rfl rfl hd_X7_severals hx hb hml hown hG hKX (c_X7_severals l D cy om om_thrown om_s om_kept om_aside om_isKept u1.1 u1.2.1 u1.2.2.1 u1.2.2.2.1 u1.2.2.2.2.2.1 u1.2.2.2.2.2.2.1 u1.2.2.2.2.2.2.2.1 u1.2.2.2.2.2.2.2.2.1 u1.2.2.2.2.2.2.2.2.2 om_text om_signs om_at om_isWrong om_clauses om_letters om_one om_two om_three om_whys om_backs om_sorts om_sizes om_items n u1.2.2.2.2.1 hn hs0 (by omega)) ⟨Nat.le_of_ble_eq_true rfl, Nat.le_of_ble_eq_true rfl⟩ ⟨Nat.zero_le _, Nat.zero_le _⟩ hP rfl rfl hl.1 rfl (Nat.le_of_ble_eq_true rfl) dX7_told_93 ?_
              exact W.iret (v := (f_X7_severals u1.2.2.2.1 u1.2.2.2.2.1)) hx hb hr (fun t ht hW => ⟨⟨(f_X7_severals u1.2.2.2.1 u1.2.2.2.2.1), u1, rfl, by subst hw1; unfold f_X7_told; rw [if_neg c1, if_neg c2, if_neg c3, if_neg c4, if_neg c5, if_pos c6] <;> rfl, by rw [ht]; exact hP, hD⟩, hS.F ht⟩) hS.2.2 dX7_told_96
            · by_cases c7 : what = (6 : Int32)
              · refine lv_tableIn (tgt := 97) hx hb dX7_told_5 (by rw [c7]; decide) (by rw [c7]; decide) (by rw [c7]; rfl) (by decide) ?_
                refine lv_aload_n hx hb dX7_told_97 rfl (lv_at hl 0 rfl) ?_
                refine cRoV (q0 := 0) (ci := 7) mw22_8 mw22_9 mw22_10 mw1_5 mw22_11 rfl rfl hd_X7_greatestRung hx hb hml hown hG hKX (c_X7_greatestRung l D cy om om_thrown om_s om_kept om_aside om_isKept u1.1 u1.2.1 u1.2.2.1 u1.2.2.2.1 (nI u1.2.2.2.2.1) u1.2.2.2.2.2.1 u1.2.2.2.2.2.2.1 u1.2.2.2.2.2.2.2.1 u1.2.2.2.2.2.2.2.2.1 u1.2.2.2.2.2.2.2.2.2 om_text om_signs om_at om_isWrong om_clauses om_letters om_one om_two om_three om_whys om_backs om_sorts om_sizes om_items n hn hs0) ⟨Nat.le_of_ble_eq_true rfl, Nat.le_of_ble_eq_true rfl⟩ ⟨Nat.zero_le _, Nat.zero_le _⟩ hP rfl rfl hl.1 rfl (Nat.le_of_ble_eq_true rfl) dX7_told_98 ?_
                exact W.iret (v := (f_X7_greatestRung u1.2.2.1 n)) hx hb hr (fun t ht hW => ⟨⟨(f_X7_greatestRung u1.2.2.1 n), u1, rfl, by subst hw1; unfold f_X7_told; rw [if_neg c1, if_neg c2, if_neg c3, if_neg c4, if_neg c5, if_neg c6, if_pos c7] <;> rfl, by rw [ht]; exact hP, hD⟩, hS.F ht⟩) hS.2.2 dX7_told_101
              · by_cases c8 : what = (7 : Int32)
                · refine lv_tableIn (tgt := 102) hx hb dX7_told_5 (by rw [c8]; decide) (by rw [c8]; decide) (by rw [c8]; rfl) (by decide) ?_
                  refine lv_aload_n hx hb dX7_told_102 rfl (lv_at hl 0 rfl) ?_
                  refine cRoV (q0 := 0) (ci := 7) mw22_12 mw22_13 mw22_14 mw1_5 mw22_15 rfl rfl hd_X7_payers hx hb hml hown hG hKX (c_X7_payers l D cy om om_thrown om_s om_kept om_aside om_isKept u1.1 u1.2.1 u1.2.2.1 u1.2.2.2.1 (nI u1.2.2.2.2.1) u1.2.2.2.2.2.1 u1.2.2.2.2.2.2.1 u1.2.2.2.2.2.2.2.1 u1.2.2.2.2.2.2.2.2.1 u1.2.2.2.2.2.2.2.2.2 om_text om_signs om_at om_isWrong om_clauses om_letters om_one om_two om_three om_whys om_backs om_sorts om_sizes om_items n hn hs0) ⟨Nat.le_of_ble_eq_true rfl, Nat.le_of_ble_eq_true rfl⟩ ⟨Nat.zero_le _, Nat.zero_le _⟩ hP rfl rfl hl.1 rfl (Nat.le_of_ble_eq_true rfl) dX7_told_103 ?_
                  exact W.iret (v := (f_X7_payers u1.2.2.2.2.2.1 n)) hx hb hr (fun t ht hW => ⟨⟨(f_X7_payers u1.2.2.2.2.2.1 n), u1, rfl, by subst hw1; unfold f_X7_told; rw [if_neg c1, if_neg c2, if_neg c3, if_neg c4, if_neg c5, if_neg c6, if_neg c7, if_pos c8] <;> rfl, by rw [ht]; exact hP, hD⟩, hS.F ht⟩) hS.2.2 dX7_told_106
                · by_cases c9 : what = (8 : Int32)
                  · refine lv_tableIn (tgt := 107) hx hb dX7_told_5 (by rw [c9]; decide) (by rw [c9]; decide) (by rw [c9]; rfl) (by decide) ?_
                    refine lv_aload_n hx hb dX7_told_107 rfl (lv_at hl 0 rfl) ?_
                    refine cRoV (q0 := 0) (ci := 7) mw22_16 mw22_17 mw22_18 mw1_5 mw22_19 rfl rfl hd_X7_references hx hb hml hown hG hKX (c_X7_references l D cy om om_thrown om_s om_kept om_aside om_isKept u1.1 u1.2.1 u1.2.2.1 u1.2.2.2.1 (nI u1.2.2.2.2.1) u1.2.2.2.2.2.1 u1.2.2.2.2.2.2.1 u1.2.2.2.2.2.2.2.1 u1.2.2.2.2.2.2.2.2.1 u1.2.2.2.2.2.2.2.2.2 om_text om_signs om_at om_isWrong om_clauses om_letters om_one om_two om_three om_whys om_backs om_sorts om_sizes om_items n hn hs0) ⟨Nat.le_of_ble_eq_true rfl, Nat.le_of_ble_eq_true rfl⟩ ⟨Nat.zero_le _, Nat.zero_le _⟩ hP rfl rfl hl.1 rfl (Nat.le_of_ble_eq_true rfl) dX7_told_108 ?_
                    exact W.iret (v := (f_X7_references om_s n)) hx hb hr (fun t ht hW => ⟨⟨(f_X7_references om_s n), u1, rfl, by subst hw1; unfold f_X7_told; rw [if_neg c1, if_neg c2, if_neg c3, if_neg c4, if_neg c5, if_neg c6, if_neg c7, if_neg c8, if_pos c9] <;> rfl, by rw [ht]; exact hP, hD⟩, hS.F ht⟩) hS.2.2 dX7_told_111
                  · refine lv_tableOut (tgt := 112) hx hb dX7_told_5 (by have q0 := ne_t c1 (z := 0) (by decide); have q1 := ne_t c2 (z := 1) (by decide); have q2 := ne_t c3 (z := 2) (by decide); have q3 := ne_t c4 (z := 3) (by decide); have q4 := ne_t c5 (z := 4) (by decide); have q5 := ne_t c6 (z := 5) (by decide); have q6 := ne_t c7 (z := 6) (by decide); have q7 := ne_t c8 (z := 7) (by decide); have q8 := ne_t c9 (z := 8) (by decide); omega) (by decide) ?_
                    refine lv_iconst (v := (-1 : Int32)) hx hb dX7_told_112 (by decide) ?_
                    exact W.iret (v := (-1 : Int32)) hx hb hr (fun t ht hW => ⟨⟨(-1 : Int32), u1, rfl, by subst hw1; unfold f_X7_told; rw [if_neg c1, if_neg c2, if_neg c3, if_neg c4, if_neg c5, if_neg c6, if_neg c7, if_neg c8, if_neg c9] <;> rfl, by rw [ht]; exact hP, hD⟩, hS.F ht⟩) hS.2.2 dX7_told_113
def f_X7_why (om_s : Nat → Int32) (om_reaches : Nat → Int32) (om_ringOf : Nat → Int32) (om_rungOf : Nat → Int32) (om_rings : Nat → Int32) (om_paid : Nat → Int32) (om_leftOf : Nat → Int32) (om_ringPaid : Nat → Int32) (om_paidAll : Int32) (om_mosts : Nat → Int32) (om_whys : Nat → Int32) (c : Int32) (k : Int32) (n : Nat) (r : Nat) : Int32 × (Nat → Int32) × (Nat → Int32) × (Nat → Int32) × (Nat → Int32) × Nat × (Nat → Int32) × (Nat → Int32) × (Nat → Int32) × Int32 × (Nat → Int32) × (Nat → Int32) :=
  if (f_X7_isOne c n) = (0 : Int32) then ((-1 : Int32), (om_reaches, om_ringOf, om_rungOf, om_rings, r, om_paid, om_leftOf, om_ringPaid, om_paidAll, om_mosts, om_whys)) else (if (0 : Int32) ≤ k then (if (3 : Int32) ≤ k then ((-5 : Int32), ((f_X7_pay om_s om_reaches om_ringOf om_rungOf om_rings om_paid om_leftOf om_ringPaid om_mosts n).1, (f_X7_pay om_s om_reaches om_ringOf om_rungOf om_rings om_paid om_leftOf om_ringPaid om_mosts n).2.1, (f_X7_pay om_s om_reaches om_ringOf om_rungOf om_rings om_paid om_leftOf om_ringPaid om_mosts n).2.2.1, (f_X7_pay om_s om_reaches om_ringOf om_rungOf om_rings om_paid om_leftOf om_ringPaid om_mosts n).2.2.2.1, (f_X7_pay om_s om_reaches om_ringOf om_rungOf om_rings om_paid om_leftOf om_ringPaid om_mosts n).2.2.2.2.1, (f_X7_pay om_s om_reaches om_ringOf om_rungOf om_rings om_paid om_leftOf om_ringPaid om_mosts n).2.2.2.2.2.1, (f_X7_pay om_s om_reaches om_ringOf om_rungOf om_rings om_paid om_leftOf om_ringPaid om_mosts n).2.2.2.2.2.2.1, (f_X7_pay om_s om_reaches om_ringOf om_rungOf om_rings om_paid om_leftOf om_ringPaid om_mosts n).2.2.2.2.2.2.2.1, (f_X7_pay om_s om_reaches om_ringOf om_rungOf om_rings om_paid om_leftOf om_ringPaid om_mosts n).2.2.2.2.2.2.2.2.1, (f_X7_pay om_s om_reaches om_ringOf om_rungOf om_rings om_paid om_leftOf om_ringPaid om_mosts n).2.2.2.2.2.2.2.2.2, (f_X7_tellsWhy om_s (f_X7_pay om_s om_reaches om_ringOf om_rungOf om_rings om_paid om_leftOf om_ringPaid om_mosts n).2.2.2.1 (f_X7_pay om_s om_reaches om_ringOf om_rungOf om_rings om_paid om_leftOf om_ringPaid om_mosts n).2.2.2.2.2.1 (f_X7_pay om_s om_reaches om_ringOf om_rungOf om_rings om_paid om_leftOf om_ringPaid om_mosts n).2.2.2.2.2.2.1 (f_X7_pay om_s om_reaches om_ringOf om_rungOf om_rings om_paid om_leftOf om_ringPaid om_mosts n).2.2.2.2.2.2.2.1 om_whys n c.toNatClampNeg ((f_X7_rungAt (f_X7_pay om_s om_reaches om_ringOf om_rungOf om_rings om_paid om_leftOf om_ringPaid om_mosts n).2.2.2.1 (f_X7_pay om_s om_reaches om_ringOf om_rungOf om_rings om_paid om_leftOf om_ringPaid om_mosts n).2.2.2.2.1 c.toNatClampNeg).toNatClampNeg)))) else (((f_X7_tellsWhy om_s (f_X7_pay om_s om_reaches om_ringOf om_rungOf om_rings om_paid om_leftOf om_ringPaid om_mosts n).2.2.2.1 (f_X7_pay om_s om_reaches om_ringOf om_rungOf om_rings om_paid om_leftOf om_ringPaid om_mosts n).2.2.2.2.2.1 (f_X7_pay om_s om_reaches om_ringOf om_rungOf om_rings om_paid om_leftOf om_ringPaid om_mosts n).2.2.2.2.2.2.1 (f_X7_pay om_s om_reaches om_ringOf om_rungOf om_rings om_paid om_leftOf om_ringPaid om_mosts n).2.2.2.2.2.2.2.1 om_whys n c.toNatClampNeg ((f_X7_rungAt (f_X7_pay om_s om_reaches om_ringOf om_rungOf om_rings om_paid om_leftOf om_ringPaid om_mosts n).2.2.2.1 (f_X7_pay om_s om_reaches om_ringOf om_rungOf om_rings om_paid om_leftOf om_ringPaid om_mosts n).2.2.2.2.1 c.toNatClampNeg).toNatClampNeg)) k.toNatClampNeg), ((f_X7_pay om_s om_reaches om_ringOf om_rungOf om_rings om_paid om_leftOf om_ringPaid om_mosts n).1, (f_X7_pay om_s om_reaches om_ringOf om_rungOf om_rings om_paid om_leftOf om_ringPaid om_mosts n).2.1, (f_X7_pay om_s om_reaches om_ringOf om_rungOf om_rings om_paid om_leftOf om_ringPaid om_mosts n).2.2.1, (f_X7_pay om_s om_reaches om_ringOf om_rungOf om_rings om_paid om_leftOf om_ringPaid om_mosts n).2.2.2.1, (f_X7_pay om_s om_reaches om_ringOf om_rungOf om_rings om_paid om_leftOf om_ringPaid om_mosts n).2.2.2.2.1, (f_X7_pay om_s om_reaches om_ringOf om_rungOf om_rings om_paid om_leftOf om_ringPaid om_mosts n).2.2.2.2.2.1, (f_X7_pay om_s om_reaches om_ringOf om_rungOf om_rings om_paid om_leftOf om_ringPaid om_mosts n).2.2.2.2.2.2.1, (f_X7_pay om_s om_reaches om_ringOf om_rungOf om_rings om_paid om_leftOf om_ringPaid om_mosts n).2.2.2.2.2.2.2.1, (f_X7_pay om_s om_reaches om_ringOf om_rungOf om_rings om_paid om_leftOf om_ringPaid om_mosts n).2.2.2.2.2.2.2.2.1, (f_X7_pay om_s om_reaches om_ringOf om_rungOf om_rings om_paid om_leftOf om_ringPaid om_mosts n).2.2.2.2.2.2.2.2.2, (f_X7_tellsWhy om_s (f_X7_pay om_s om_reaches om_ringOf om_rungOf om_rings om_paid om_leftOf om_ringPaid om_mosts n).2.2.2.1 (f_X7_pay om_s om_reaches om_ringOf om_rungOf om_rings om_paid om_leftOf om_ringPaid om_mosts n).2.2.2.2.2.1 (f_X7_pay om_s om_reaches om_ringOf om_rungOf om_rings om_paid om_leftOf om_ringPaid om_mosts n).2.2.2.2.2.2.1 (f_X7_pay om_s om_reaches om_ringOf om_rungOf om_rings om_paid om_leftOf om_ringPaid om_mosts n).2.2.2.2.2.2.2.1 om_whys n c.toNatClampNeg ((f_X7_rungAt (f_X7_pay om_s om_reaches om_ringOf om_rungOf om_rings om_paid om_leftOf om_ringPaid om_mosts n).2.2.2.1 (f_X7_pay om_s om_reaches om_ringOf om_rungOf om_rings om_paid om_leftOf om_ringPaid om_mosts n).2.2.2.2.1 c.toNatClampNeg).toNatClampNeg))))) else ((-1 : Int32), (om_reaches, om_ringOf, om_rungOf, om_rings, r, om_paid, om_leftOf, om_ringPaid, om_paidAll, om_mosts, om_whys)))
set_option maxHeartbeats 4000000 in
set_option maxRecDepth 100000 in
theorem c_X7_why (l : Launch) (D : va_G) (cy : Nat → ClassId) (om : Nat → Nat) (om_thrown : Int32) (om_s : Nat → Int32) (om_kept : Nat → Int32) (om_aside : Nat → Int32) (om_isKept : Int32) (om_reaches : Nat → Int32) (om_ringOf : Nat → Int32) (om_rungOf : Nat → Int32) (om_rings : Nat → Int32) (om_paid : Nat → Int32) (om_leftOf : Nat → Int32) (om_ringPaid : Nat → Int32) (om_paidAll : Int32) (om_mosts : Nat → Int32) (om_text : Nat → Int32) (om_signs : Int32) (om_at : Int32) (om_isWrong : Int32) (om_clauses : Int32) (om_letters : Nat → Int32) (om_one : Nat → Int32) (om_two : Nat → Int32) (om_three : Nat → Int32) (om_whys : Nat → Int32) (om_backs : Nat → Int32) (om_sorts : Nat → Int32) (om_sizes : Nat → Int32) (om_items : Nat → Int64) (c : Int32) (k : Int32) (n : Nat) (r : Nat) (hn : n ≤ 6) (hs0 : om_s 0 = nI n) : RwI (S := (Nat → Int32) × (Nat → Int32) × (Nat → Int32) × (Nat → Int32) × Nat × (Nat → Int32) × (Nat → Int32) × (Nat → Int32) × Int32 × (Nat → Int32) × (Nat → Int32)) l D cy yX7_why (.code yX7_why cX7_why 3 (some .int)) 5 (wX7 cy om om_thrown om_s om_kept om_aside om_isKept om_reaches om_ringOf om_rungOf om_rings (nI r) om_paid om_leftOf om_ringPaid om_paidAll om_mosts om_text om_signs om_at om_isWrong om_clauses om_letters om_one om_two om_three om_whys om_backs om_sorts om_sizes om_items) [.ref (om 0), .int c, .int k] (fun rr u => (rr, u) = f_X7_why om_s om_reaches om_ringOf om_rungOf om_rings om_paid om_leftOf om_ringPaid om_paidAll om_mosts om_whys c k n r) (fun u => wX7 cy om om_thrown om_s om_kept om_aside om_isKept u.1 u.2.1 u.2.2.1 u.2.2.2.1 (nI u.2.2.2.2.1) u.2.2.2.2.2.1 u.2.2.2.2.2.2.1 u.2.2.2.2.2.2.2.1 u.2.2.2.2.2.2.2.2.1 u.2.2.2.2.2.2.2.2.2.1 om_text om_signs om_at om_isWrong om_clauses om_letters om_one om_two om_three u.2.2.2.2.2.2.2.2.2.2 om_backs om_sorts om_sizes om_items) := by
  intro sz
  refine Met.ofW (cc := cX7_why) (maxL := 3) (ret := (some .int)) (by decide) rfl ?_
  intro pP eE s0 mM args below meth cC s₁ B hml hv
  obtain ⟨rfl, hsz, hP, hKX, hD0⟩ := hv
  have hx := B.exec
  have hb := B.bytes
  have hr := B.returns
  have hG := gw_hts (atoms_spec (ws := _) B.pre)
  have hown : s0.vm.findClass RX7 = some mM.cls := findClass_of_methodNamed B.named
  have hlocks := B.notSynchronized
  subst hsz
  have hD := hD0.self (sz := s0.heap.size)
  generalize hAe : va_A (wX7 cy om om_thrown om_s om_kept om_aside om_isKept om_reaches om_ringOf om_rungOf om_rings (nI r) om_paid om_leftOf om_ringPaid om_paidAll om_mosts om_text om_signs om_at om_isWrong om_clauses om_letters om_one om_two om_three om_whys om_backs om_sorts om_sizes om_items) s0.heap.size = A at hD ⊢
  have hA : ∀ q : Nat, s0.heap.size ≤ q → A q := fun q h => by rw [← hAe]; exact Or.inr h
  have hS : va_S A s0.heap s0.heap [] := va_S.rf
  have hl := lv_entry ([.ref (om 0), .int c, .int k]) (n := 3) (Nat.le_of_ble_eq_true rfl)
  rw [lg_entry_eq]
  generalize (lg_sl ([.ref (om 0), .int c, .int k]) ++ List.replicate (3 - (lg_sl ([.ref (om 0), .int c, .int k])).length) Slot.unset).toArray = ls at hl ⊢
  have hl : lv_has ls 3 [(0, .ref (om 0)), (1, .int c), (2, .int k)] := hl
  refine lv_aload_n hx hb dX7_why_0 rfl (lv_at hl 0 rfl) ?_
  refine lv_iload_n hx hb dX7_why_1 rfl (lv_at hl 1 rfl) ?_
  refine cRoV (q0 := 0) (ci := 7) mw8_2 mw8_3 mw8_4 mw1_5 mw8_5 rfl rfl hd_X7_isOne hx hb hml hown hG hKX (c_X7_isOne l D cy om om_thrown om_s om_kept om_aside om_isKept om_reaches om_ringOf om_rungOf om_rings (nI r) om_paid om_leftOf om_ringPaid om_paidAll om_mosts om_text om_signs om_at om_isWrong om_clauses om_letters om_one om_two om_three om_whys om_backs om_sorts om_sizes om_items c n hn hs0) ⟨Nat.le_of_ble_eq_true rfl, Nat.le_of_ble_eq_true rfl⟩ ⟨Nat.zero_le _, Nat.zero_le _⟩ hP rfl rfl hl.1 rfl (Nat.le_of_ble_eq_true rfl) dX7_why_2 ?_
  refine lv_if_eq (tgt := 12) hx hb dX7_why_5 (by decide) (fun c1 => ?_) (fun c1 => ?_)
  · refine lv_iconst (v := (-1 : Int32)) hx hb dX7_why_12 (by decide) ?_
    exact W.iret (v := (-1 : Int32)) hx hb hr (fun t ht hW => ⟨⟨(-1 : Int32), (om_reaches, om_ringOf, om_rungOf, om_rings, r, om_paid, om_leftOf, om_ringPaid, om_paidAll, om_mosts, om_whys), rfl, by unfold f_X7_why; rw [if_pos c1] <;> rfl, by rw [ht]; exact hP, hD⟩, hS.F ht⟩) hS.2.2 dX7_why_13
  · obtain ⟨j13, hj13, hlj13, rfl⟩ := isO_of (by omega) c1
    refine lv_iload_n hx hb dX7_why_8 rfl (lv_at hl 2 rfl) ?_
    refine lv_if_ge (tgt := 14) hx hb dX7_why_9 (by decide) (fun c2 => ?_) (fun c2 => ?_)
    · refine lv_aload_n hx hb dX7_why_14 rfl (lv_at hl 0 rfl) ?_
      refine cRwVV (q0 := 0) (ci := 7) mw14_9 mw14_10 mw14_11 mw1_5 mw14_12 rfl rfl hd_X7_pay hx hb hml hown hG hKX (c_X7_pay l D cy om om_thrown om_s om_kept om_aside om_isKept om_reaches om_ringOf om_rungOf om_rings (nI r) om_paid om_leftOf om_ringPaid om_paidAll om_mosts om_text om_signs om_at om_isWrong om_clauses om_letters om_one om_two om_three om_whys om_backs om_sorts om_sizes om_items n hn hs0) ⟨Nat.le_of_ble_eq_true rfl, Nat.le_of_ble_eq_true rfl⟩ ⟨Nat.zero_le _, Nat.zero_le _⟩ hP hD hS hA [0, 1, 2, 3, 4, 5, 6, 7, 8, 9, 10, 11, 12, 13, 14, 15, 16, 17, 18, 19, 20, 21] [] [0, 1, 2, 3, 4, 5, 6, 7, 8, 9, 10, 11, 12, 13, 14, 15, 16, 17, 18, 19, 20, 21] (wr := []) (wn := fun u15 => wX7 cy om om_thrown om_s om_kept om_aside om_isKept u15.1 u15.2.1 u15.2.2.1 u15.2.2.2.1 (nI u15.2.2.2.2.1) u15.2.2.2.2.2.1 u15.2.2.2.2.2.2.1 u15.2.2.2.2.2.2.2.1 u15.2.2.2.2.2.2.2.2.1 u15.2.2.2.2.2.2.2.2.2 om_text om_signs om_at om_isWrong om_clauses om_letters om_one om_two om_three om_whys om_backs om_sorts om_sizes om_items) rfl (by decide) rfl (by decide) (by decide) (fun _ => rfl) (by decide) rfl rfl hl.1 rfl (Nat.le_of_ble_eq_true rfl) dX7_why_15 (fun u15 H locs hw15 hP hD hS => ?_)
      have hrl : u15.2.2.2.2.1 ≤ 6 := by subst hw15; exact pay_le hn
      have hrg : ∀ k, k < n → (f_X7_rungAt u15.2.2.2.1 u15.2.2.2.2.1 k) = nI (f_X7_rungAt u15.2.2.2.1 u15.2.2.2.2.1 k).toNatClampNeg ∧ (f_X7_rungAt u15.2.2.2.1 u15.2.2.2.2.1 k).toNatClampNeg < 6 := by subst hw15; exact pay_rung hn
      refine lv_aload_n hx hb dX7_why_18 rfl (lv_at hl 0 rfl) ?_
      refine lv_iload_n hx hb dX7_why_19 rfl (lv_at hl 1 rfl) ?_
      refine cRwVV (q0 := 0) (ci := 7) mw23_22 mw23_23 mw24_0 mw1_5 mw24_1 rfl rfl hd_X7_tellsWhy hx hb hml hown hG hKX (c_X7_tellsWhy l D cy om om_thrown om_s om_kept om_aside om_isKept u15.1 u15.2.1 u15.2.2.1 u15.2.2.2.1 u15.2.2.2.2.2.1 u15.2.2.2.2.2.2.1 u15.2.2.2.2.2.2.2.1 u15.2.2.2.2.2.2.2.2.1 u15.2.2.2.2.2.2.2.2.2 om_text om_signs om_at om_isWrong om_clauses om_letters om_one om_two om_three om_whys om_backs om_sorts om_sizes om_items n u15.2.2.2.2.1 j13 ((f_X7_rungAt u15.2.2.2.1 u15.2.2.2.2.1 j13).toNatClampNeg) hn hs0 (by omega) hlj13 (hrg j13 (by omega)).2 (hrg j13 (by omega)).1) ⟨Nat.le_of_ble_eq_true rfl, Nat.le_of_ble_eq_true rfl⟩ ⟨Nat.zero_le _, Nat.zero_le _⟩ hP hD hS hA [0, 1, 2, 3, 4, 5, 6, 7, 8, 9, 10, 11, 12, 13, 14, 15, 16, 17, 18, 19, 20, 21] [] [0, 1, 2, 3, 4, 5, 6, 7, 8, 9, 10, 11, 12, 13, 14, 15, 16, 17, 18, 19, 20, 21] (wr := []) (wn := fun u20 => wX7 cy om om_thrown om_s om_kept om_aside om_isKept u15.1 u15.2.1 u15.2.2.1 u15.2.2.2.1 (nI u15.2.2.2.2.1) u15.2.2.2.2.2.1 u15.2.2.2.2.2.2.1 u15.2.2.2.2.2.2.2.1 u15.2.2.2.2.2.2.2.2.1 u15.2.2.2.2.2.2.2.2.2 om_text om_signs om_at om_isWrong om_clauses om_letters om_one om_two om_three u20 om_backs om_sorts om_sizes om_items) rfl (by decide) rfl (by decide) (by decide) (fun _ => rfl) (by decide) rfl rfl hl.1 rfl (Nat.le_of_ble_eq_true rfl) dX7_why_20 (fun u20 H locs hw20 hP hD hS => ?_)
      refine lv_iload_n hx hb dX7_why_23 rfl (lv_at hl 2 rfl) ?_
      refine lv_iconst (v := (3 : Int32)) hx hb dX7_why_24 (by decide) ?_
      refine lv_icmp_ge (tgt := 37) hx hb dX7_why_25 (by decide) (fun c3 => ?_) (fun c3 => ?_)
      · refine lv_bipush (v := (-5 : Int32)) hx hb dX7_why_37 (by decide) ?_
        exact W.iret (v := (-5 : Int32)) hx hb hr (fun t ht hW => ⟨⟨(-5 : Int32), (u15.1, u15.2.1, u15.2.2.1, u15.2.2.2.1, u15.2.2.2.2.1, u15.2.2.2.2.2.1, u15.2.2.2.2.2.2.1, u15.2.2.2.2.2.2.2.1, u15.2.2.2.2.2.2.2.2.1, u15.2.2.2.2.2.2.2.2.2, u20), rfl, by subst hw20; subst hw15; unfold f_X7_why; (try simp only [hj13]); rw [if_neg c1, if_pos c2, if_pos c3] <;> rfl, by rw [ht]; exact hP, hD⟩, hS.F ht⟩) hS.2.2 dX7_why_39
      · obtain ⟨j28, hj28, hlj28, rfl⟩ := in_of (n := 3) (by omega) (Int32.not_lt.mpr c2) c3
        refine lv_aload_n hx hb dX7_why_28 rfl (lv_at hl 0 rfl) ?_
        refine gf_X7_64 hx hb hG hown hKX hP 0 rfl rfl dX7_why_29 ?_
        refine lv_iload_n hx hb dX7_why_32 rfl (lv_at hl 2 rfl) ?_
        refine iald_n hx hb hKX hP 17 rfl rfl (by omega) (by decide) dX7_why_33 ?_
        refine lv_goto (tgt := 39) hx hb dX7_why_34 (by decide) ?_
        exact W.iret (v := (u20 j28)) hx hb hr (fun t ht hW => ⟨⟨(u20 j28), (u15.1, u15.2.1, u15.2.2.1, u15.2.2.2.1, u15.2.2.2.2.1, u15.2.2.2.2.2.1, u15.2.2.2.2.2.2.1, u15.2.2.2.2.2.2.2.1, u15.2.2.2.2.2.2.2.2.1, u15.2.2.2.2.2.2.2.2.2, u20), rfl, by subst hw20; subst hw15; unfold f_X7_why; (try simp only [hj13, hj28]); rw [if_neg c1, if_pos c2, if_neg c3] <;> rfl, by rw [ht]; exact hP, hD⟩, hS.F ht⟩) hS.2.2 dX7_why_39
    · refine lv_iconst (v := (-1 : Int32)) hx hb dX7_why_12 (by decide) ?_
      exact W.iret (v := (-1 : Int32)) hx hb hr (fun t ht hW => ⟨⟨(-1 : Int32), (om_reaches, om_ringOf, om_rungOf, om_rings, r, om_paid, om_leftOf, om_ringPaid, om_paidAll, om_mosts, om_whys), rfl, by unfold f_X7_why; (try simp only [hj13]); rw [if_neg c1, if_neg c2] <;> rfl, by rw [ht]; exact hP, hD⟩, hS.F ht⟩) hS.2.2 dX7_why_13
