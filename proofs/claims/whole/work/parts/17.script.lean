theorem zr_of {r : Int32} (h : r = 0 ∨ r = 1) : narrow .boolean (.int r) = .int r := by
  rcases h with e | e <;> rw [e] <;> rfl
theorem takeNumberd3_b {f g : Nat → Int32} {ln pt sl : Nat} {r : Int32} {u : (Nat → Int32) × Nat} (hw : (r, u) = f_X2_takeNumberd3 f g ln pt sl) : r = 0 ∨ r = 1 := by
  have e : r = (f_X2_takeNumberd3 f g ln pt sl).1 := congrArg Prod.fst hw
  rw [e]
  clear e hw
  unfold f_X2_takeNumberd3
  repeat' refine iteP (P := fun x : Int32 × (Nat → Int32) × Nat => x.1 = 0 ∨ x.1 = 1) (fun _ => ?_) (fun _ => ?_)
  all_goals first | exact Or.inl rfl | exact Or.inr rfl
def f_X2_takeClause (oc_signs : Nat → Int32) (oc_letters : Nat → Int32) (oc_numbers : Nat → Int32) (ln : Nat) (pt : Nat) (k : Nat) : Int32 × (Nat → Int32) × (Nat → Int32) × Nat :=
  if nI ln ≤ nI pt then ((0 : Int32), (upd oc_letters k (0 : Int32), oc_numbers, pt)) else (if (oc_signs pt) = (99 : Int32) then (if (f_X2_takeNumberd1 oc_signs oc_numbers ln (pt + 1) (k * 3)).1 = (0 : Int32) then ((0 : Int32), (upd oc_letters k (oc_signs pt), (f_X2_takeNumberd1 oc_signs oc_numbers ln (pt + 1) (k * 3)).2.1, (f_X2_takeNumberd1 oc_signs oc_numbers ln (pt + 1) (k * 3)).2.2)) else (if (f_X2_takeNumberd2 oc_signs (f_X2_takeNumberd1 oc_signs oc_numbers ln (pt + 1) (k * 3)).2.1 ln (f_X2_takeNumberd1 oc_signs oc_numbers ln (pt + 1) (k * 3)).2.2 ((k * 3) + 1)).1 = (0 : Int32) then ((0 : Int32), (upd oc_letters k (oc_signs pt), (f_X2_takeNumberd2 oc_signs (f_X2_takeNumberd1 oc_signs oc_numbers ln (pt + 1) (k * 3)).2.1 ln (f_X2_takeNumberd1 oc_signs oc_numbers ln (pt + 1) (k * 3)).2.2 ((k * 3) + 1)).2.1, (f_X2_takeNumberd2 oc_signs (f_X2_takeNumberd1 oc_signs oc_numbers ln (pt + 1) (k * 3)).2.1 ln (f_X2_takeNumberd1 oc_signs oc_numbers ln (pt + 1) (k * 3)).2.2 ((k * 3) + 1)).2.2)) else (if (f_X2_takeSign oc_signs (44 : Int32) ln (f_X2_takeNumberd2 oc_signs (f_X2_takeNumberd1 oc_signs oc_numbers ln (pt + 1) (k * 3)).2.1 ln (f_X2_takeNumberd1 oc_signs oc_numbers ln (pt + 1) (k * 3)).2.2 ((k * 3) + 1)).2.2).1 = (0 : Int32) then ((0 : Int32), (upd oc_letters k (oc_signs pt), (f_X2_takeNumberd2 oc_signs (f_X2_takeNumberd1 oc_signs oc_numbers ln (pt + 1) (k * 3)).2.1 ln (f_X2_takeNumberd1 oc_signs oc_numbers ln (pt + 1) (k * 3)).2.2 ((k * 3) + 1)).2.1, (f_X2_takeSign oc_signs (44 : Int32) ln (f_X2_takeNumberd2 oc_signs (f_X2_takeNumberd1 oc_signs oc_numbers ln (pt + 1) (k * 3)).2.1 ln (f_X2_takeNumberd1 oc_signs oc_numbers ln (pt + 1) (k * 3)).2.2 ((k * 3) + 1)).2.2).2)) else (if (f_X2_takeNumberd2 oc_signs (f_X2_takeNumberd2 oc_signs (f_X2_takeNumberd1 oc_signs oc_numbers ln (pt + 1) (k * 3)).2.1 ln (f_X2_takeNumberd1 oc_signs oc_numbers ln (pt + 1) (k * 3)).2.2 ((k * 3) + 1)).2.1 ln (f_X2_takeSign oc_signs (44 : Int32) ln (f_X2_takeNumberd2 oc_signs (f_X2_takeNumberd1 oc_signs oc_numbers ln (pt + 1) (k * 3)).2.1 ln (f_X2_takeNumberd1 oc_signs oc_numbers ln (pt + 1) (k * 3)).2.2 ((k * 3) + 1)).2.2).2 ((k * 3) + 2)).1 = (0 : Int32) then ((0 : Int32), (upd oc_letters k (oc_signs pt), (f_X2_takeNumberd2 oc_signs (f_X2_takeNumberd2 oc_signs (f_X2_takeNumberd1 oc_signs oc_numbers ln (pt + 1) (k * 3)).2.1 ln (f_X2_takeNumberd1 oc_signs oc_numbers ln (pt + 1) (k * 3)).2.2 ((k * 3) + 1)).2.1 ln (f_X2_takeSign oc_signs (44 : Int32) ln (f_X2_takeNumberd2 oc_signs (f_X2_takeNumberd1 oc_signs oc_numbers ln (pt + 1) (k * 3)).2.1 ln (f_X2_takeNumberd1 oc_signs oc_numbers ln (pt + 1) (k * 3)).2.2 ((k * 3) + 1)).2.2).2 ((k * 3) + 2)).2.1, (f_X2_takeNumberd2 oc_signs (f_X2_takeNumberd2 oc_signs (f_X2_takeNumberd1 oc_signs oc_numbers ln (pt + 1) (k * 3)).2.1 ln (f_X2_takeNumberd1 oc_signs oc_numbers ln (pt + 1) (k * 3)).2.2 ((k * 3) + 1)).2.1 ln (f_X2_takeSign oc_signs (44 : Int32) ln (f_X2_takeNumberd2 oc_signs (f_X2_takeNumberd1 oc_signs oc_numbers ln (pt + 1) (k * 3)).2.1 ln (f_X2_takeNumberd1 oc_signs oc_numbers ln (pt + 1) (k * 3)).2.2 ((k * 3) + 1)).2.2).2 ((k * 3) + 2)).2.2)) else ((1 : Int32), (upd oc_letters k (oc_signs pt), (f_X2_takeNumberd2 oc_signs (f_X2_takeNumberd2 oc_signs (f_X2_takeNumberd1 oc_signs oc_numbers ln (pt + 1) (k * 3)).2.1 ln (f_X2_takeNumberd1 oc_signs oc_numbers ln (pt + 1) (k * 3)).2.2 ((k * 3) + 1)).2.1 ln (f_X2_takeSign oc_signs (44 : Int32) ln (f_X2_takeNumberd2 oc_signs (f_X2_takeNumberd1 oc_signs oc_numbers ln (pt + 1) (k * 3)).2.1 ln (f_X2_takeNumberd1 oc_signs oc_numbers ln (pt + 1) (k * 3)).2.2 ((k * 3) + 1)).2.2).2 ((k * 3) + 2)).2.1, (f_X2_takeNumberd2 oc_signs (f_X2_takeNumberd2 oc_signs (f_X2_takeNumberd1 oc_signs oc_numbers ln (pt + 1) (k * 3)).2.1 ln (f_X2_takeNumberd1 oc_signs oc_numbers ln (pt + 1) (k * 3)).2.2 ((k * 3) + 1)).2.1 ln (f_X2_takeSign oc_signs (44 : Int32) ln (f_X2_takeNumberd2 oc_signs (f_X2_takeNumberd1 oc_signs oc_numbers ln (pt + 1) (k * 3)).2.1 ln (f_X2_takeNumberd1 oc_signs oc_numbers ln (pt + 1) (k * 3)).2.2 ((k * 3) + 1)).2.2).2 ((k * 3) + 2)).2.2)))))) else (if (oc_signs pt) = (108 : Int32) then ((f_X2_takeNumberd3 oc_signs oc_numbers ln (pt + 1) (k * 3)).1, (upd oc_letters k (oc_signs pt), (f_X2_takeNumberd3 oc_signs oc_numbers ln (pt + 1) (k * 3)).2.1, (f_X2_takeNumberd3 oc_signs oc_numbers ln (pt + 1) (k * 3)).2.2)) else (if (oc_signs pt) = (110 : Int32) then (if (f_X2_takeNumberd1 oc_signs oc_numbers ln (pt + 1) (k * 3)).1 = (0 : Int32) then ((0 : Int32), (upd oc_letters k (oc_signs pt), (f_X2_takeNumberd1 oc_signs oc_numbers ln (pt + 1) (k * 3)).2.1, (f_X2_takeNumberd1 oc_signs oc_numbers ln (pt + 1) (k * 3)).2.2)) else (if (f_X2_takeNumberd1 oc_signs (f_X2_takeNumberd1 oc_signs oc_numbers ln (pt + 1) (k * 3)).2.1 ln (f_X2_takeNumberd1 oc_signs oc_numbers ln (pt + 1) (k * 3)).2.2 ((k * 3) + 1)).1 = (0 : Int32) then ((0 : Int32), (upd oc_letters k (oc_signs pt), (f_X2_takeNumberd1 oc_signs (f_X2_takeNumberd1 oc_signs oc_numbers ln (pt + 1) (k * 3)).2.1 ln (f_X2_takeNumberd1 oc_signs oc_numbers ln (pt + 1) (k * 3)).2.2 ((k * 3) + 1)).2.1, (f_X2_takeNumberd1 oc_signs (f_X2_takeNumberd1 oc_signs oc_numbers ln (pt + 1) (k * 3)).2.1 ln (f_X2_takeNumberd1 oc_signs oc_numbers ln (pt + 1) (k * 3)).2.2 ((k * 3) + 1)).2.2)) else ((1 : Int32), (upd oc_letters k (oc_signs pt), (f_X2_takeNumberd1 oc_signs (f_X2_takeNumberd1 oc_signs oc_numbers ln (pt + 1) (k * 3)).2.1 ln (f_X2_takeNumberd1 oc_signs oc_numbers ln (pt + 1) (k * 3)).2.2 ((k * 3) + 1)).2.1, (f_X2_takeNumberd1 oc_signs (f_X2_takeNumberd1 oc_signs oc_numbers ln (pt + 1) (k * 3)).2.1 ln (f_X2_takeNumberd1 oc_signs oc_numbers ln (pt + 1) (k * 3)).2.2 ((k * 3) + 1)).2.2)))) else (if (oc_signs pt) = (113 : Int32) then (if (f_X2_takeNumberd1 oc_signs oc_numbers ln (pt + 1) (k * 3)).1 = (0 : Int32) then ((0 : Int32), (upd oc_letters k (oc_signs pt), (f_X2_takeNumberd1 oc_signs oc_numbers ln (pt + 1) (k * 3)).2.1, (f_X2_takeNumberd1 oc_signs oc_numbers ln (pt + 1) (k * 3)).2.2)) else (if (f_X2_takeNumberd3 oc_signs (f_X2_takeNumberd1 oc_signs oc_numbers ln (pt + 1) (k * 3)).2.1 ln (f_X2_takeNumberd1 oc_signs oc_numbers ln (pt + 1) (k * 3)).2.2 ((k * 3) + 1)).1 = (0 : Int32) then ((0 : Int32), (upd oc_letters k (oc_signs pt), (f_X2_takeNumberd3 oc_signs (f_X2_takeNumberd1 oc_signs oc_numbers ln (pt + 1) (k * 3)).2.1 ln (f_X2_takeNumberd1 oc_signs oc_numbers ln (pt + 1) (k * 3)).2.2 ((k * 3) + 1)).2.1, (f_X2_takeNumberd3 oc_signs (f_X2_takeNumberd1 oc_signs oc_numbers ln (pt + 1) (k * 3)).2.1 ln (f_X2_takeNumberd1 oc_signs oc_numbers ln (pt + 1) (k * 3)).2.2 ((k * 3) + 1)).2.2)) else ((1 : Int32), (upd oc_letters k (oc_signs pt), (f_X2_takeNumberd3 oc_signs (f_X2_takeNumberd1 oc_signs oc_numbers ln (pt + 1) (k * 3)).2.1 ln (f_X2_takeNumberd1 oc_signs oc_numbers ln (pt + 1) (k * 3)).2.2 ((k * 3) + 1)).2.1, (f_X2_takeNumberd3 oc_signs (f_X2_takeNumberd1 oc_signs oc_numbers ln (pt + 1) (k * 3)).2.1 ln (f_X2_takeNumberd1 oc_signs oc_numbers ln (pt + 1) (k * 3)).2.2 ((k * 3) + 1)).2.2)))) else (if (oc_signs pt) = (114 : Int32) then (if (f_X2_takeNumberd1 oc_signs oc_numbers ln (pt + 1) (k * 3)).1 = (0 : Int32) then ((0 : Int32), (upd oc_letters k (oc_signs pt), (f_X2_takeNumberd1 oc_signs oc_numbers ln (pt + 1) (k * 3)).2.1, (f_X2_takeNumberd1 oc_signs oc_numbers ln (pt + 1) (k * 3)).2.2)) else (if (f_X2_takeNumberd1 oc_signs (f_X2_takeNumberd1 oc_signs oc_numbers ln (pt + 1) (k * 3)).2.1 ln (f_X2_takeNumberd1 oc_signs oc_numbers ln (pt + 1) (k * 3)).2.2 ((k * 3) + 1)).1 = (0 : Int32) then ((0 : Int32), (upd oc_letters k (oc_signs pt), (f_X2_takeNumberd1 oc_signs (f_X2_takeNumberd1 oc_signs oc_numbers ln (pt + 1) (k * 3)).2.1 ln (f_X2_takeNumberd1 oc_signs oc_numbers ln (pt + 1) (k * 3)).2.2 ((k * 3) + 1)).2.1, (f_X2_takeNumberd1 oc_signs (f_X2_takeNumberd1 oc_signs oc_numbers ln (pt + 1) (k * 3)).2.1 ln (f_X2_takeNumberd1 oc_signs oc_numbers ln (pt + 1) (k * 3)).2.2 ((k * 3) + 1)).2.2)) else ((1 : Int32), (upd oc_letters k (oc_signs pt), (f_X2_takeNumberd1 oc_signs (f_X2_takeNumberd1 oc_signs oc_numbers ln (pt + 1) (k * 3)).2.1 ln (f_X2_takeNumberd1 oc_signs oc_numbers ln (pt + 1) (k * 3)).2.2 ((k * 3) + 1)).2.1, (f_X2_takeNumberd1 oc_signs (f_X2_takeNumberd1 oc_signs oc_numbers ln (pt + 1) (k * 3)).2.1 ln (f_X2_takeNumberd1 oc_signs oc_numbers ln (pt + 1) (k * 3)).2.2 ((k * 3) + 1)).2.2)))) else ((0 : Int32), (upd oc_letters k (oc_signs pt), oc_numbers, pt)))))))
set_option maxHeartbeats 4000000 in
set_option maxRecDepth 100000 in
theorem c_X2_takeClause (l : Launch) (D : va_G) (cy : Nat → ClassId) (oc : Nat → Nat) (oc_signs : Nat → Int32) (oc_letters : Nat → Int32) (oc_numbers : Nat → Int32) (oc_clauses : Int32) (ln : Nat) (pt : Nat) (k : Nat) (hln : ln ≤ 100) (hpt : pt ≤ ln) (hk : k < 12) : RwI (S := (Nat → Int32) × (Nat → Int32) × Nat) l D cy yX2_takeClause (.code yX2_takeClause cX2_takeClause 4 (some .boolean)) 1 (wX2 cy oc oc_signs oc_letters oc_numbers (nI ln) oc_clauses (nI pt)) [.ref (oc 0), .int (nI k)] (fun rr u => (rr, u) = f_X2_takeClause oc_signs oc_letters oc_numbers ln pt k) (fun u => wX2 cy oc oc_signs u.1 u.2.1 (nI ln) oc_clauses (nI u.2.2)) := by
  intro sz
  refine Met.ofW (cc := cX2_takeClause) (maxL := 4) (ret := (some .boolean)) (by decide) rfl ?_
  intro pP eE s0 mM args below meth cC s₁ B hml hv
  obtain ⟨rfl, hsz, hP, hKX, hD0⟩ := hv
  have hx := B.exec
  have hb := B.bytes
  have hr := B.returns
  have hG := gw_hts (atoms_spec (ws := _) B.pre)
  have hown : s0.vm.findClass RX2 = some mM.cls := findClass_of_methodNamed B.named
  have hlocks := B.notSynchronized
  subst hsz
  have hD := hD0.self (sz := s0.heap.size)
  generalize hAe : va_A (wX2 cy oc oc_signs oc_letters oc_numbers (nI ln) oc_clauses (nI pt)) s0.heap.size = A at hD ⊢
  have hA : ∀ q : Nat, s0.heap.size ≤ q → A q := fun q h => by rw [← hAe]; exact Or.inr h
  have hS : va_S A s0.heap s0.heap [] := va_S.rf
  have hl := lv_entry ([.ref (oc 0), .int (nI k)]) (n := 4) (Nat.le_of_ble_eq_true rfl)
  rw [lg_entry_eq]
  generalize (lg_sl ([.ref (oc 0), .int (nI k)]) ++ List.replicate (4 - (lg_sl ([.ref (oc 0), .int (nI k)])).length) Slot.unset).toArray = ls at hl ⊢
  have hl : lv_has ls 4 [(0, .ref (oc 0)), (1, .int (nI k))] := hl
  refine lv_aload_n hx hb dX2_takeClause_0 rfl (lv_at hl 0 rfl) ?_
  refine gf_X2_26 hx hb hG hown hKX hP 0 rfl rfl dX2_takeClause_1 ?_
  refine lv_aload_n hx hb dX2_takeClause_4 rfl (lv_at hl 0 rfl) ?_
  refine gf_X2_22 hx hb hG hown hKX hP 0 rfl rfl dX2_takeClause_5 ?_
  refine lv_icmp_ge (tgt := 23) hx hb dX2_takeClause_8 (by decide) (fun c1 => ?_) (fun c1 => ?_)
  · refine lv_iconst (v := (0 : Int32)) hx hb dX2_takeClause_23 (by decide) ?_
    refine lv_istore_n (lv' := [(2, .int (0 : Int32)), (0, .ref (oc 0)), (1, .int (nI k))]) hx hb dX2_takeClause_24 rfl hl (by decide) rfl (fun ls hl => ?_)
    refine lv_iload_n hx hb dX2_takeClause_25 rfl (lv_at hl 2 rfl) ?_
    refine lv_iconst (v := (3 : Int32)) hx hb dX2_takeClause_26 (by decide) ?_
    refine lv_imul hx hb dX2_takeClause_27 ?_
    refine topi_eq (y := nI (k * 3)) (mN rfl rfl) ?_
    refine lv_istore_n (lv' := [(3, .int (nI (k * 3))), (2, .int (0 : Int32)), (0, .ref (oc 0)), (1, .int (nI k))]) hx hb dX2_takeClause_28 rfl hl (by decide) rfl (fun ls hl => ?_)
    refine lv_aload_n hx hb dX2_takeClause_29 rfl (lv_at hl 2 rfl) ?_
    refine gf_X2_15 hx hb hG hown hKX hP 0 rfl rfl dX2_takeClause_30 ?_
    refine lv_iload_n hx hb dX2_takeClause_33 rfl (lv_at hl 3 rfl) ?_
    refine lv_iload_n hx hb dX2_takeClause_34 rfl (lv_at hl 1 rfl) ?_
    refine iast_n hx hb hKX hP hD hS 2 rfl rfl (by omega) (by decide) dX2_takeClause_35 (fun H locs hP hD hS => ?_)
    have hP : va_P D vwCl (wX2 cy oc oc_signs (upd oc_letters k (0 : Int32)) oc_numbers (nI ln) oc_clauses (nI pt)) H := hP
    have hD : va_D A (wX2 cy oc oc_signs (upd oc_letters k (0 : Int32)) oc_numbers (nI ln) oc_clauses (nI pt)) := hD
    refine lv_iload_n hx hb dX2_takeClause_36 rfl (lv_at hl 1 rfl) ?_
    refine lv_lookup (off := 196) (tgt := 233) hx hb dX2_takeClause_37 (by decide) (by decide) (by decide) ?_
    refine lv_iconst (v := (0 : Int32)) hx hb dX2_takeClause_233 (by decide) ?_
    exact W.zret (v := (0 : Int32)) hx hb hr rfl (fun t ht hW => ⟨⟨(0 : Int32), (upd oc_letters k (0 : Int32), oc_numbers, pt), rfl, by unfold f_X2_takeClause; rw [if_pos c1] <;> rfl, by rw [ht]; exact hP, hD⟩, hS.F ht⟩) hS.2.2 dX2_takeClause_234
  · have hat2 : pt < ln := Nat.lt_of_not_le (fun qq_ => c1 ((nI_leI (a := ln) (b := pt) (by omega) (by omega)).mpr qq_))
    refine lv_aload_n hx hb dX2_takeClause_11 rfl (lv_at hl 0 rfl) ?_
    refine gf_X2_9 hx hb hG hown hKX hP 0 rfl rfl dX2_takeClause_12 ?_
    refine lv_aload_n hx hb dX2_takeClause_15 rfl (lv_at hl 0 rfl) ?_
    refine gf_X2_26 hx hb hG hown hKX hP 0 rfl rfl dX2_takeClause_16 ?_
    refine bald_n hx hb hKX hP 1 rfl rfl (by omega) (by decide) dX2_takeClause_19 ?_
    refine lv_goto (tgt := 24) hx hb dX2_takeClause_20 (by decide) ?_
    refine lv_istore_n (lv' := [(2, .int (oc_signs pt)), (0, .ref (oc 0)), (1, .int (nI k))]) hx hb dX2_takeClause_24 rfl hl (by decide) rfl (fun ls hl => ?_)
    refine lv_iload_n hx hb dX2_takeClause_25 rfl (lv_at hl 2 rfl) ?_
    refine lv_iconst (v := (3 : Int32)) hx hb dX2_takeClause_26 (by decide) ?_
    refine lv_imul hx hb dX2_takeClause_27 ?_
    refine topi_eq (y := nI (k * 3)) (mN rfl rfl) ?_
    refine lv_istore_n (lv' := [(3, .int (nI (k * 3))), (2, .int (oc_signs pt)), (0, .ref (oc 0)), (1, .int (nI k))]) hx hb dX2_takeClause_28 rfl hl (by decide) rfl (fun ls hl => ?_)
    refine lv_aload_n hx hb dX2_takeClause_29 rfl (lv_at hl 2 rfl) ?_
    refine gf_X2_15 hx hb hG hown hKX hP 0 rfl rfl dX2_takeClause_30 ?_
    refine lv_iload_n hx hb dX2_takeClause_33 rfl (lv_at hl 3 rfl) ?_
    refine lv_iload_n hx hb dX2_takeClause_34 rfl (lv_at hl 1 rfl) ?_
    refine iast_n hx hb hKX hP hD hS 2 rfl rfl (by omega) (by decide) dX2_takeClause_35 (fun H locs hP hD hS => ?_)
    have hP : va_P D vwCl (wX2 cy oc oc_signs (upd oc_letters k (oc_signs pt)) oc_numbers (nI ln) oc_clauses (nI pt)) H := hP
    have hD : va_D A (wX2 cy oc oc_signs (upd oc_letters k (oc_signs pt)) oc_numbers (nI ln) oc_clauses (nI pt)) := hD
    refine lv_iload_n hx hb dX2_takeClause_36 rfl (lv_at hl 1 rfl) ?_
    by_cases c3 : (oc_signs pt) = (99 : Int32)
    · refine lv_lookup (off := 51) (tgt := 88) hx hb dX2_takeClause_37 (by decide) (by rw [c3]; decide) (by decide) ?_
      refine lv_aload_n hx hb dX2_takeClause_88 rfl (lv_at hl 2 rfl) ?_
      refine lv_dup hx hb dX2_takeClause_89 rfl ?_
      refine gf_X2_26 hx hb hG hown hKX hP 0 rfl rfl dX2_takeClause_90 ?_
      refine lv_iconst (v := (1 : Int32)) hx hb dX2_takeClause_93 (by decide) ?_
      refine lv_iadd hx hb dX2_takeClause_94 ?_
      refine topi_eq (y := nI (pt + 1)) (aN rfl rfl) ?_
      refine pf_X2_26 hx hb hG hown hKX hP hD hS 0 rfl rfl rfl (Nat.le_of_ble_eq_true rfl) dX2_takeClause_95 (wn := wX2 cy oc oc_signs (upd oc_letters k (oc_signs pt)) oc_numbers (nI ln) oc_clauses (nI (pt + 1))) rfl (fun H locs hP hD hS => ?_)
      refine lv_aload_n hx hb dX2_takeClause_98 rfl (lv_at hl 2 rfl) ?_
      refine lv_iload_n hx hb dX2_takeClause_99 rfl (lv_at hl 0 rfl) ?_
      refine lv_iconst (v := (1 : Int32)) hx hb dX2_takeClause_100 (by decide) ?_
      refine cRwV (q0 := 0) (ci := 2) mw17_23 mw18_0 mw18_1 mw2_7 mw18_2 rfl rfl hd_X2_takeNumber hx hb hml hown hG hKX (c_X2_takeNumberd1 l D cy oc oc_signs (upd oc_letters k (oc_signs pt)) oc_numbers oc_clauses ln (pt + 1) (k * 3) hln (by omega) (by omega)) ⟨Nat.le_of_ble_eq_true rfl, Nat.le_of_ble_eq_true rfl⟩ ⟨Nat.zero_le _, Nat.zero_le _⟩ hP hD hS hA [0, 1, 2, 3] [] [0, 1, 2, 3] (wr := []) (wn := fun u101 => wX2 cy oc oc_signs (upd oc_letters k (oc_signs pt)) u101.1 (nI ln) oc_clauses (nI u101.2)) rfl (by decide) rfl (by decide) (by decide) (fun _ => rfl) (by decide) rfl rfl hl.1 rfl (Nat.le_of_ble_eq_true rfl) dX2_takeClause_101 (fun r101 u101 H locs hw101 hP hD hS => ?_)
      have hbu101 := takeNumberd1_le hw101 (by omega) hln
      refine lv_if_eq (tgt := 142) hx hb dX2_takeClause_104 (by decide) (fun c4 => ?_) (fun c4 => ?_)
      · refine lv_iconst (v := (0 : Int32)) hx hb dX2_takeClause_142 (by decide) ?_
        exact W.zret (v := (0 : Int32)) hx hb hr rfl (fun t ht hW => ⟨⟨(0 : Int32), (upd oc_letters k (oc_signs pt), u101.1, u101.2), rfl, by obtain rfl := congrArg Prod.fst hw101; obtain rfl := congrArg Prod.snd hw101; unfold f_X2_takeClause; rw [if_neg c1, if_pos c3, if_pos c4] <;> rfl, by rw [ht]; exact hP, hD⟩, hS.F ht⟩) hS.2.2 dX2_takeClause_143
      · refine lv_aload_n hx hb dX2_takeClause_107 rfl (lv_at hl 2 rfl) ?_
        refine lv_iload_n hx hb dX2_takeClause_108 rfl (lv_at hl 0 rfl) ?_
        refine lv_iconst (v := (1 : Int32)) hx hb dX2_takeClause_109 (by decide) ?_
        refine lv_iadd hx hb dX2_takeClause_110 ?_
        refine topi_eq (y := nI ((k * 3) + 1)) (aN rfl rfl) ?_
        refine lv_iconst (v := (2 : Int32)) hx hb dX2_takeClause_111 (by decide) ?_
        refine cRwV (q0 := 0) (ci := 2) mw17_23 mw18_0 mw18_1 mw2_7 mw18_2 rfl rfl hd_X2_takeNumber hx hb hml hown hG hKX (c_X2_takeNumberd2 l D cy oc oc_signs (upd oc_letters k (oc_signs pt)) u101.1 oc_clauses ln u101.2 ((k * 3) + 1) hln (by omega) (by omega)) ⟨Nat.le_of_ble_eq_true rfl, Nat.le_of_ble_eq_true rfl⟩ ⟨Nat.zero_le _, Nat.zero_le _⟩ hP hD hS hA [0, 1, 2, 3] [] [0, 1, 2, 3] (wr := []) (wn := fun u112 => wX2 cy oc oc_signs (upd oc_letters k (oc_signs pt)) u112.1 (nI ln) oc_clauses (nI u112.2)) rfl (by decide) rfl (by decide) (by decide) (fun _ => rfl) (by decide) rfl rfl hl.1 rfl (Nat.le_of_ble_eq_true rfl) dX2_takeClause_112 (fun r112 u112 H locs hw112 hP hD hS => ?_)
        have hbu112 := takeNumberd2_le hw112 (by omega) hln
        refine lv_if_eq (tgt := 142) hx hb dX2_takeClause_115 (by decide) (fun c5 => ?_) (fun c5 => ?_)
        · refine lv_iconst (v := (0 : Int32)) hx hb dX2_takeClause_142 (by decide) ?_
          exact W.zret (v := (0 : Int32)) hx hb hr rfl (fun t ht hW => ⟨⟨(0 : Int32), (upd oc_letters k (oc_signs pt), u112.1, u112.2), rfl, by obtain rfl := congrArg Prod.fst hw112; obtain rfl := congrArg Prod.snd hw112; obtain rfl := congrArg Prod.fst hw101; obtain rfl := congrArg Prod.snd hw101; unfold f_X2_takeClause; rw [if_neg c1, if_pos c3, if_neg c4, if_pos c5] <;> rfl, by rw [ht]; exact hP, hD⟩, hS.F ht⟩) hS.2.2 dX2_takeClause_143
        · refine lv_aload_n hx hb dX2_takeClause_118 rfl (lv_at hl 2 rfl) ?_
          refine lv_bipush (v := (44 : Int32)) hx hb dX2_takeClause_119 (by decide) ?_
          refine cRwV (q0 := 0) (ci := 2) mw18_3 mw18_4 mw18_5 mw2_7 mw18_6 rfl rfl hd_X2_takeSign hx hb hml hown hG hKX (c_X2_takeSign l D cy oc oc_signs (upd oc_letters k (oc_signs pt)) u112.1 oc_clauses (44 : Int32) ln u112.2 hln (by omega)) ⟨Nat.le_of_ble_eq_true rfl, Nat.le_of_ble_eq_true rfl⟩ ⟨Nat.zero_le _, Nat.zero_le _⟩ hP hD hS hA [0, 1, 2, 3] [] [0, 1, 2, 3] (wr := []) (wn := fun u121 => wX2 cy oc oc_signs (upd oc_letters k (oc_signs pt)) u112.1 (nI ln) oc_clauses (nI u121)) rfl (by decide) rfl (by decide) (by decide) (fun _ => rfl) (by decide) rfl rfl hl.1 rfl (Nat.le_of_ble_eq_true rfl) dX2_takeClause_121 (fun r121 u121 H locs hw121 hP hD hS => ?_)
          have hbu121 := takeSign_le hw121 (by omega) hln
          refine lv_if_eq (tgt := 142) hx hb dX2_takeClause_124 (by decide) (fun c6 => ?_) (fun c6 => ?_)
          · refine lv_iconst (v := (0 : Int32)) hx hb dX2_takeClause_142 (by decide) ?_
            exact W.zret (v := (0 : Int32)) hx hb hr rfl (fun t ht hW => ⟨⟨(0 : Int32), (upd oc_letters k (oc_signs pt), u112.1, u121), rfl, by obtain rfl := congrArg Prod.fst hw121; obtain rfl := congrArg Prod.snd hw121; obtain rfl := congrArg Prod.fst hw112; obtain rfl := congrArg Prod.snd hw112; obtain rfl := congrArg Prod.fst hw101; obtain rfl := congrArg Prod.snd hw101; unfold f_X2_takeClause; rw [if_neg c1, if_pos c3, if_neg c4, if_neg c5, if_pos c6] <;> rfl, by rw [ht]; exact hP, hD⟩, hS.F ht⟩) hS.2.2 dX2_takeClause_143
          · refine lv_aload_n hx hb dX2_takeClause_127 rfl (lv_at hl 2 rfl) ?_
            refine lv_iload_n hx hb dX2_takeClause_128 rfl (lv_at hl 0 rfl) ?_
            refine lv_iconst (v := (2 : Int32)) hx hb dX2_takeClause_129 (by decide) ?_
            refine lv_iadd hx hb dX2_takeClause_130 ?_
            refine topi_eq (y := nI ((k * 3) + 2)) (aN rfl rfl) ?_
            refine lv_iconst (v := (2 : Int32)) hx hb dX2_takeClause_131 (by decide) ?_
            refine cRwV (q0 := 0) (ci := 2) mw17_23 mw18_0 mw18_1 mw2_7 mw18_2 rfl rfl hd_X2_takeNumber hx hb hml hown hG hKX (c_X2_takeNumberd2 l D cy oc oc_signs (upd oc_letters k (oc_signs pt)) u112.1 oc_clauses ln u121 ((k * 3) + 2) hln (by omega) (by omega)) ⟨Nat.le_of_ble_eq_true rfl, Nat.le_of_ble_eq_true rfl⟩ ⟨Nat.zero_le _, Nat.zero_le _⟩ hP hD hS hA [0, 1, 2, 3] [] [0, 1, 2, 3] (wr := []) (wn := fun u132 => wX2 cy oc oc_signs (upd oc_letters k (oc_signs pt)) u132.1 (nI ln) oc_clauses (nI u132.2)) rfl (by decide) rfl (by decide) (by decide) (fun _ => rfl) (by decide) rfl rfl hl.1 rfl (Nat.le_of_ble_eq_true rfl) dX2_takeClause_132 (fun r132 u132 H locs hw132 hP hD hS => ?_)
            have hbu132 := takeNumberd2_le hw132 (by omega) hln
            refine lv_if_eq (tgt := 142) hx hb dX2_takeClause_135 (by decide) (fun c7 => ?_) (fun c7 => ?_)
            · refine lv_iconst (v := (0 : Int32)) hx hb dX2_takeClause_142 (by decide) ?_
              exact W.zret (v := (0 : Int32)) hx hb hr rfl (fun t ht hW => ⟨⟨(0 : Int32), (upd oc_letters k (oc_signs pt), u132.1, u132.2), rfl, by obtain rfl := congrArg Prod.fst hw132; obtain rfl := congrArg Prod.snd hw132; obtain rfl := congrArg Prod.fst hw121; obtain rfl := congrArg Prod.snd hw121; obtain rfl := congrArg Prod.fst hw112; obtain rfl := congrArg Prod.snd hw112; obtain rfl := congrArg Prod.fst hw101; obtain rfl := congrArg Prod.snd hw101; unfold f_X2_takeClause; rw [if_neg c1, if_pos c3, if_neg c4, if_neg c5, if_neg c6, if_pos c7] <;> rfl, by rw [ht]; exact hP, hD⟩, hS.F ht⟩) hS.2.2 dX2_takeClause_143
            · refine lv_iconst (v := (1 : Int32)) hx hb dX2_takeClause_138 (by decide) ?_
              refine lv_goto (tgt := 143) hx hb dX2_takeClause_139 (by decide) ?_
              exact W.zret (v := (1 : Int32)) hx hb hr rfl (fun t ht hW => ⟨⟨(1 : Int32), (upd oc_letters k (oc_signs pt), u132.1, u132.2), rfl, by obtain rfl := congrArg Prod.fst hw132; obtain rfl := congrArg Prod.snd hw132; obtain rfl := congrArg Prod.fst hw121; obtain rfl := congrArg Prod.snd hw121; obtain rfl := congrArg Prod.fst hw112; obtain rfl := congrArg Prod.snd hw112; obtain rfl := congrArg Prod.fst hw101; obtain rfl := congrArg Prod.snd hw101; unfold f_X2_takeClause; rw [if_neg c1, if_pos c3, if_neg c4, if_neg c5, if_neg c6, if_neg c7] <;> rfl, by rw [ht]; exact hP, hD⟩, hS.F ht⟩) hS.2.2 dX2_takeClause_143
    · by_cases c8 : (oc_signs pt) = (108 : Int32)
      · refine lv_lookup (off := 179) (tgt := 216) hx hb dX2_takeClause_37 (by decide) (by rw [c8]; decide) (by decide) ?_
        refine lv_aload_n hx hb dX2_takeClause_216 rfl (lv_at hl 2 rfl) ?_
        refine lv_dup hx hb dX2_takeClause_217 rfl ?_
        refine gf_X2_26 hx hb hG hown hKX hP 0 rfl rfl dX2_takeClause_218 ?_
        refine lv_iconst (v := (1 : Int32)) hx hb dX2_takeClause_221 (by decide) ?_
        refine lv_iadd hx hb dX2_takeClause_222 ?_
        refine topi_eq (y := nI (pt + 1)) (aN rfl rfl) ?_
        refine pf_X2_26 hx hb hG hown hKX hP hD hS 0 rfl rfl rfl (Nat.le_of_ble_eq_true rfl) dX2_takeClause_223 (wn := wX2 cy oc oc_signs (upd oc_letters k (oc_signs pt)) oc_numbers (nI ln) oc_clauses (nI (pt + 1))) rfl (fun H locs hP hD hS => ?_)
        refine lv_aload_n hx hb dX2_takeClause_226 rfl (lv_at hl 2 rfl) ?_
        refine lv_iload_n hx hb dX2_takeClause_227 rfl (lv_at hl 0 rfl) ?_
        refine lv_iconst (v := (3 : Int32)) hx hb dX2_takeClause_228 (by decide) ?_
        refine cRwV (q0 := 0) (ci := 2) mw17_23 mw18_0 mw18_1 mw2_7 mw18_2 rfl rfl hd_X2_takeNumber hx hb hml hown hG hKX (c_X2_takeNumberd3 l D cy oc oc_signs (upd oc_letters k (oc_signs pt)) oc_numbers oc_clauses ln (pt + 1) (k * 3) hln (by omega) (by omega)) ⟨Nat.le_of_ble_eq_true rfl, Nat.le_of_ble_eq_true rfl⟩ ⟨Nat.zero_le _, Nat.zero_le _⟩ hP hD hS hA [0, 1, 2, 3] [] [0, 1, 2, 3] (wr := []) (wn := fun u229 => wX2 cy oc oc_signs (upd oc_letters k (oc_signs pt)) u229.1 (nI ln) oc_clauses (nI u229.2)) rfl (by decide) rfl (by decide) (by decide) (fun _ => rfl) (by decide) rfl rfl hl.1 rfl (Nat.le_of_ble_eq_true rfl) dX2_takeClause_229 (fun r229 u229 H locs hw229 hP hD hS => ?_)
        have hbu229 := takeNumberd3_le hw229 (by omega) hln
        exact W.zret (v := r229) hx hb hr (zr_of (takeNumberd3_b hw229)) (fun t ht hW => ⟨⟨r229, (upd oc_letters k (oc_signs pt), u229.1, u229.2), rfl, by obtain rfl := congrArg Prod.fst hw229; obtain rfl := congrArg Prod.snd hw229; unfold f_X2_takeClause; rw [if_neg c1, if_neg c3, if_pos c8] <;> rfl, by rw [ht]; exact hP, hD⟩, hS.F ht⟩) hS.2.2 dX2_takeClause_232
      · by_cases c9 : (oc_signs pt) = (110 : Int32)
        · refine lv_lookup (off := 107) (tgt := 144) hx hb dX2_takeClause_37 (by decide) (by rw [c9]; decide) (by decide) ?_
          refine lv_aload_n hx hb dX2_takeClause_144 rfl (lv_at hl 2 rfl) ?_
          refine lv_dup hx hb dX2_takeClause_145 rfl ?_
          refine gf_X2_26 hx hb hG hown hKX hP 0 rfl rfl dX2_takeClause_146 ?_
          refine lv_iconst (v := (1 : Int32)) hx hb dX2_takeClause_149 (by decide) ?_
          refine lv_iadd hx hb dX2_takeClause_150 ?_
          refine topi_eq (y := nI (pt + 1)) (aN rfl rfl) ?_
          refine pf_X2_26 hx hb hG hown hKX hP hD hS 0 rfl rfl rfl (Nat.le_of_ble_eq_true rfl) dX2_takeClause_151 (wn := wX2 cy oc oc_signs (upd oc_letters k (oc_signs pt)) oc_numbers (nI ln) oc_clauses (nI (pt + 1))) rfl (fun H locs hP hD hS => ?_)
          refine lv_aload_n hx hb dX2_takeClause_154 rfl (lv_at hl 2 rfl) ?_
          refine lv_iload_n hx hb dX2_takeClause_155 rfl (lv_at hl 0 rfl) ?_
          refine lv_iconst (v := (1 : Int32)) hx hb dX2_takeClause_156 (by decide) ?_
          refine cRwV (q0 := 0) (ci := 2) mw17_23 mw18_0 mw18_1 mw2_7 mw18_2 rfl rfl hd_X2_takeNumber hx hb hml hown hG hKX (c_X2_takeNumberd1 l D cy oc oc_signs (upd oc_letters k (oc_signs pt)) oc_numbers oc_clauses ln (pt + 1) (k * 3) hln (by omega) (by omega)) ⟨Nat.le_of_ble_eq_true rfl, Nat.le_of_ble_eq_true rfl⟩ ⟨Nat.zero_le _, Nat.zero_le _⟩ hP hD hS hA [0, 1, 2, 3] [] [0, 1, 2, 3] (wr := []) (wn := fun u157 => wX2 cy oc oc_signs (upd oc_letters k (oc_signs pt)) u157.1 (nI ln) oc_clauses (nI u157.2)) rfl (by decide) rfl (by decide) (by decide) (fun _ => rfl) (by decide) rfl rfl hl.1 rfl (Nat.le_of_ble_eq_true rfl) dX2_takeClause_157 (fun r157 u157 H locs hw157 hP hD hS => ?_)
          have hbu157 := takeNumberd1_le hw157 (by omega) hln
          refine lv_if_eq (tgt := 178) hx hb dX2_takeClause_160 (by decide) (fun c10 => ?_) (fun c10 => ?_)
          · refine lv_iconst (v := (0 : Int32)) hx hb dX2_takeClause_178 (by decide) ?_
            exact W.zret (v := (0 : Int32)) hx hb hr rfl (fun t ht hW => ⟨⟨(0 : Int32), (upd oc_letters k (oc_signs pt), u157.1, u157.2), rfl, by obtain rfl := congrArg Prod.fst hw157; obtain rfl := congrArg Prod.snd hw157; unfold f_X2_takeClause; rw [if_neg c1, if_neg c3, if_neg c8, if_pos c9, if_pos c10] <;> rfl, by rw [ht]; exact hP, hD⟩, hS.F ht⟩) hS.2.2 dX2_takeClause_179
          · refine lv_aload_n hx hb dX2_takeClause_163 rfl (lv_at hl 2 rfl) ?_
            refine lv_iload_n hx hb dX2_takeClause_164 rfl (lv_at hl 0 rfl) ?_
            refine lv_iconst (v := (1 : Int32)) hx hb dX2_takeClause_165 (by decide) ?_
            refine lv_iadd hx hb dX2_takeClause_166 ?_
            refine topi_eq (y := nI ((k * 3) + 1)) (aN rfl rfl) ?_
            refine lv_iconst (v := (1 : Int32)) hx hb dX2_takeClause_167 (by decide) ?_
            refine cRwV (q0 := 0) (ci := 2) mw17_23 mw18_0 mw18_1 mw2_7 mw18_2 rfl rfl hd_X2_takeNumber hx hb hml hown hG hKX (c_X2_takeNumberd1 l D cy oc oc_signs (upd oc_letters k (oc_signs pt)) u157.1 oc_clauses ln u157.2 ((k * 3) + 1) hln (by omega) (by omega)) ⟨Nat.le_of_ble_eq_true rfl, Nat.le_of_ble_eq_true rfl⟩ ⟨Nat.zero_le _, Nat.zero_le _⟩ hP hD hS hA [0, 1, 2, 3] [] [0, 1, 2, 3] (wr := []) (wn := fun u168 => wX2 cy oc oc_signs (upd oc_letters k (oc_signs pt)) u168.1 (nI ln) oc_clauses (nI u168.2)) rfl (by decide) rfl (by decide) (by decide) (fun _ => rfl) (by decide) rfl rfl hl.1 rfl (Nat.le_of_ble_eq_true rfl) dX2_takeClause_168 (fun r168 u168 H locs hw168 hP hD hS => ?_)
            have hbu168 := takeNumberd1_le hw168 (by omega) hln
            refine lv_if_eq (tgt := 178) hx hb dX2_takeClause_171 (by decide) (fun c11 => ?_) (fun c11 => ?_)
            · refine lv_iconst (v := (0 : Int32)) hx hb dX2_takeClause_178 (by decide) ?_
              exact W.zret (v := (0 : Int32)) hx hb hr rfl (fun t ht hW => ⟨⟨(0 : Int32), (upd oc_letters k (oc_signs pt), u168.1, u168.2), rfl, by obtain rfl := congrArg Prod.fst hw168; obtain rfl := congrArg Prod.snd hw168; obtain rfl := congrArg Prod.fst hw157; obtain rfl := congrArg Prod.snd hw157; unfold f_X2_takeClause; rw [if_neg c1, if_neg c3, if_neg c8, if_pos c9, if_neg c10, if_pos c11] <;> rfl, by rw [ht]; exact hP, hD⟩, hS.F ht⟩) hS.2.2 dX2_takeClause_179
            · refine lv_iconst (v := (1 : Int32)) hx hb dX2_takeClause_174 (by decide) ?_
              refine lv_goto (tgt := 179) hx hb dX2_takeClause_175 (by decide) ?_
              exact W.zret (v := (1 : Int32)) hx hb hr rfl (fun t ht hW => ⟨⟨(1 : Int32), (upd oc_letters k (oc_signs pt), u168.1, u168.2), rfl, by obtain rfl := congrArg Prod.fst hw168; obtain rfl := congrArg Prod.snd hw168; obtain rfl := congrArg Prod.fst hw157; obtain rfl := congrArg Prod.snd hw157; unfold f_X2_takeClause; rw [if_neg c1, if_neg c3, if_neg c8, if_pos c9, if_neg c10, if_neg c11] <;> rfl, by rw [ht]; exact hP, hD⟩, hS.F ht⟩) hS.2.2 dX2_takeClause_179
        · by_cases c12 : (oc_signs pt) = (113 : Int32)
          · refine lv_lookup (off := 143) (tgt := 180) hx hb dX2_takeClause_37 (by decide) (by rw [c12]; decide) (by decide) ?_
            refine lv_aload_n hx hb dX2_takeClause_180 rfl (lv_at hl 2 rfl) ?_
            refine lv_dup hx hb dX2_takeClause_181 rfl ?_
            refine gf_X2_26 hx hb hG hown hKX hP 0 rfl rfl dX2_takeClause_182 ?_
            refine lv_iconst (v := (1 : Int32)) hx hb dX2_takeClause_185 (by decide) ?_
            refine lv_iadd hx hb dX2_takeClause_186 ?_
            refine topi_eq (y := nI (pt + 1)) (aN rfl rfl) ?_
            refine pf_X2_26 hx hb hG hown hKX hP hD hS 0 rfl rfl rfl (Nat.le_of_ble_eq_true rfl) dX2_takeClause_187 (wn := wX2 cy oc oc_signs (upd oc_letters k (oc_signs pt)) oc_numbers (nI ln) oc_clauses (nI (pt + 1))) rfl (fun H locs hP hD hS => ?_)
            refine lv_aload_n hx hb dX2_takeClause_190 rfl (lv_at hl 2 rfl) ?_
            refine lv_iload_n hx hb dX2_takeClause_191 rfl (lv_at hl 0 rfl) ?_
            refine lv_iconst (v := (1 : Int32)) hx hb dX2_takeClause_192 (by decide) ?_
            refine cRwV (q0 := 0) (ci := 2) mw17_23 mw18_0 mw18_1 mw2_7 mw18_2 rfl rfl hd_X2_takeNumber hx hb hml hown hG hKX (c_X2_takeNumberd1 l D cy oc oc_signs (upd oc_letters k (oc_signs pt)) oc_numbers oc_clauses ln (pt + 1) (k * 3) hln (by omega) (by omega)) ⟨Nat.le_of_ble_eq_true rfl, Nat.le_of_ble_eq_true rfl⟩ ⟨Nat.zero_le _, Nat.zero_le _⟩ hP hD hS hA [0, 1, 2, 3] [] [0, 1, 2, 3] (wr := []) (wn := fun u193 => wX2 cy oc oc_signs (upd oc_letters k (oc_signs pt)) u193.1 (nI ln) oc_clauses (nI u193.2)) rfl (by decide) rfl (by decide) (by decide) (fun _ => rfl) (by decide) rfl rfl hl.1 rfl (Nat.le_of_ble_eq_true rfl) dX2_takeClause_193 (fun r193 u193 H locs hw193 hP hD hS => ?_)
            have hbu193 := takeNumberd1_le hw193 (by omega) hln
            refine lv_if_eq (tgt := 214) hx hb dX2_takeClause_196 (by decide) (fun c13 => ?_) (fun c13 => ?_)
            · refine lv_iconst (v := (0 : Int32)) hx hb dX2_takeClause_214 (by decide) ?_
              exact W.zret (v := (0 : Int32)) hx hb hr rfl (fun t ht hW => ⟨⟨(0 : Int32), (upd oc_letters k (oc_signs pt), u193.1, u193.2), rfl, by obtain rfl := congrArg Prod.fst hw193; obtain rfl := congrArg Prod.snd hw193; unfold f_X2_takeClause; rw [if_neg c1, if_neg c3, if_neg c8, if_neg c9, if_pos c12, if_pos c13] <;> rfl, by rw [ht]; exact hP, hD⟩, hS.F ht⟩) hS.2.2 dX2_takeClause_215
            · refine lv_aload_n hx hb dX2_takeClause_199 rfl (lv_at hl 2 rfl) ?_
              refine lv_iload_n hx hb dX2_takeClause_200 rfl (lv_at hl 0 rfl) ?_
              refine lv_iconst (v := (1 : Int32)) hx hb dX2_takeClause_201 (by decide) ?_
              refine lv_iadd hx hb dX2_takeClause_202 ?_
              refine topi_eq (y := nI ((k * 3) + 1)) (aN rfl rfl) ?_
              refine lv_iconst (v := (3 : Int32)) hx hb dX2_takeClause_203 (by decide) ?_
              refine cRwV (q0 := 0) (ci := 2) mw17_23 mw18_0 mw18_1 mw2_7 mw18_2 rfl rfl hd_X2_takeNumber hx hb hml hown hG hKX (c_X2_takeNumberd3 l D cy oc oc_signs (upd oc_letters k (oc_signs pt)) u193.1 oc_clauses ln u193.2 ((k * 3) + 1) hln (by omega) (by omega)) ⟨Nat.le_of_ble_eq_true rfl, Nat.le_of_ble_eq_true rfl⟩ ⟨Nat.zero_le _, Nat.zero_le _⟩ hP hD hS hA [0, 1, 2, 3] [] [0, 1, 2, 3] (wr := []) (wn := fun u204 => wX2 cy oc oc_signs (upd oc_letters k (oc_signs pt)) u204.1 (nI ln) oc_clauses (nI u204.2)) rfl (by decide) rfl (by decide) (by decide) (fun _ => rfl) (by decide) rfl rfl hl.1 rfl (Nat.le_of_ble_eq_true rfl) dX2_takeClause_204 (fun r204 u204 H locs hw204 hP hD hS => ?_)
              have hbu204 := takeNumberd3_le hw204 (by omega) hln
              refine lv_if_eq (tgt := 214) hx hb dX2_takeClause_207 (by decide) (fun c14 => ?_) (fun c14 => ?_)
              · refine lv_iconst (v := (0 : Int32)) hx hb dX2_takeClause_214 (by decide) ?_
                exact W.zret (v := (0 : Int32)) hx hb hr rfl (fun t ht hW => ⟨⟨(0 : Int32), (upd oc_letters k (oc_signs pt), u204.1, u204.2), rfl, by obtain rfl := congrArg Prod.fst hw204; obtain rfl := congrArg Prod.snd hw204; obtain rfl := congrArg Prod.fst hw193; obtain rfl := congrArg Prod.snd hw193; unfold f_X2_takeClause; rw [if_neg c1, if_neg c3, if_neg c8, if_neg c9, if_pos c12, if_neg c13, if_pos c14] <;> rfl, by rw [ht]; exact hP, hD⟩, hS.F ht⟩) hS.2.2 dX2_takeClause_215
              · refine lv_iconst (v := (1 : Int32)) hx hb dX2_takeClause_210 (by decide) ?_
                refine lv_goto (tgt := 215) hx hb dX2_takeClause_211 (by decide) ?_
                exact W.zret (v := (1 : Int32)) hx hb hr rfl (fun t ht hW => ⟨⟨(1 : Int32), (upd oc_letters k (oc_signs pt), u204.1, u204.2), rfl, by obtain rfl := congrArg Prod.fst hw204; obtain rfl := congrArg Prod.snd hw204; obtain rfl := congrArg Prod.fst hw193; obtain rfl := congrArg Prod.snd hw193; unfold f_X2_takeClause; rw [if_neg c1, if_neg c3, if_neg c8, if_neg c9, if_pos c12, if_neg c13, if_neg c14] <;> rfl, by rw [ht]; exact hP, hD⟩, hS.F ht⟩) hS.2.2 dX2_takeClause_215
          · by_cases c15 : (oc_signs pt) = (114 : Int32)
            · refine lv_lookup (off := 107) (tgt := 144) hx hb dX2_takeClause_37 (by decide) (by rw [c15]; decide) (by decide) ?_
              refine lv_aload_n hx hb dX2_takeClause_144 rfl (lv_at hl 2 rfl) ?_
              refine lv_dup hx hb dX2_takeClause_145 rfl ?_
              refine gf_X2_26 hx hb hG hown hKX hP 0 rfl rfl dX2_takeClause_146 ?_
              refine lv_iconst (v := (1 : Int32)) hx hb dX2_takeClause_149 (by decide) ?_
              refine lv_iadd hx hb dX2_takeClause_150 ?_
              refine topi_eq (y := nI (pt + 1)) (aN rfl rfl) ?_
              refine pf_X2_26 hx hb hG hown hKX hP hD hS 0 rfl rfl rfl (Nat.le_of_ble_eq_true rfl) dX2_takeClause_151 (wn := wX2 cy oc oc_signs (upd oc_letters k (oc_signs pt)) oc_numbers (nI ln) oc_clauses (nI (pt + 1))) rfl (fun H locs hP hD hS => ?_)
              refine lv_aload_n hx hb dX2_takeClause_154 rfl (lv_at hl 2 rfl) ?_
              refine lv_iload_n hx hb dX2_takeClause_155 rfl (lv_at hl 0 rfl) ?_
              refine lv_iconst (v := (1 : Int32)) hx hb dX2_takeClause_156 (by decide) ?_
              refine cRwV (q0 := 0) (ci := 2) mw17_23 mw18_0 mw18_1 mw2_7 mw18_2 rfl rfl hd_X2_takeNumber hx hb hml hown hG hKX (c_X2_takeNumberd1 l D cy oc oc_signs (upd oc_letters k (oc_signs pt)) oc_numbers oc_clauses ln (pt + 1) (k * 3) hln (by omega) (by omega)) ⟨Nat.le_of_ble_eq_true rfl, Nat.le_of_ble_eq_true rfl⟩ ⟨Nat.zero_le _, Nat.zero_le _⟩ hP hD hS hA [0, 1, 2, 3] [] [0, 1, 2, 3] (wr := []) (wn := fun u157 => wX2 cy oc oc_signs (upd oc_letters k (oc_signs pt)) u157.1 (nI ln) oc_clauses (nI u157.2)) rfl (by decide) rfl (by decide) (by decide) (fun _ => rfl) (by decide) rfl rfl hl.1 rfl (Nat.le_of_ble_eq_true rfl) dX2_takeClause_157 (fun r157 u157 H locs hw157 hP hD hS => ?_)
              have hbu157 := takeNumberd1_le hw157 (by omega) hln
              refine lv_if_eq (tgt := 178) hx hb dX2_takeClause_160 (by decide) (fun c16 => ?_) (fun c16 => ?_)
              · refine lv_iconst (v := (0 : Int32)) hx hb dX2_takeClause_178 (by decide) ?_
                exact W.zret (v := (0 : Int32)) hx hb hr rfl (fun t ht hW => ⟨⟨(0 : Int32), (upd oc_letters k (oc_signs pt), u157.1, u157.2), rfl, by obtain rfl := congrArg Prod.fst hw157; obtain rfl := congrArg Prod.snd hw157; unfold f_X2_takeClause; rw [if_neg c1, if_neg c3, if_neg c8, if_neg c9, if_neg c12, if_pos c15, if_pos c16] <;> rfl, by rw [ht]; exact hP, hD⟩, hS.F ht⟩) hS.2.2 dX2_takeClause_179
              · refine lv_aload_n hx hb dX2_takeClause_163 rfl (lv_at hl 2 rfl) ?_
                refine lv_iload_n hx hb dX2_takeClause_164 rfl (lv_at hl 0 rfl) ?_
                refine lv_iconst (v := (1 : Int32)) hx hb dX2_takeClause_165 (by decide) ?_
                refine lv_iadd hx hb dX2_takeClause_166 ?_
                refine topi_eq (y := nI ((k * 3) + 1)) (aN rfl rfl) ?_
                refine lv_iconst (v := (1 : Int32)) hx hb dX2_takeClause_167 (by decide) ?_
                refine cRwV (q0 := 0) (ci := 2) mw17_23 mw18_0 mw18_1 mw2_7 mw18_2 rfl rfl hd_X2_takeNumber hx hb hml hown hG hKX (c_X2_takeNumberd1 l D cy oc oc_signs (upd oc_letters k (oc_signs pt)) u157.1 oc_clauses ln u157.2 ((k * 3) + 1) hln (by omega) (by omega)) ⟨Nat.le_of_ble_eq_true rfl, Nat.le_of_ble_eq_true rfl⟩ ⟨Nat.zero_le _, Nat.zero_le _⟩ hP hD hS hA [0, 1, 2, 3] [] [0, 1, 2, 3] (wr := []) (wn := fun u168 => wX2 cy oc oc_signs (upd oc_letters k (oc_signs pt)) u168.1 (nI ln) oc_clauses (nI u168.2)) rfl (by decide) rfl (by decide) (by decide) (fun _ => rfl) (by decide) rfl rfl hl.1 rfl (Nat.le_of_ble_eq_true rfl) dX2_takeClause_168 (fun r168 u168 H locs hw168 hP hD hS => ?_)
                have hbu168 := takeNumberd1_le hw168 (by omega) hln
                refine lv_if_eq (tgt := 178) hx hb dX2_takeClause_171 (by decide) (fun c17 => ?_) (fun c17 => ?_)
                · refine lv_iconst (v := (0 : Int32)) hx hb dX2_takeClause_178 (by decide) ?_
                  exact W.zret (v := (0 : Int32)) hx hb hr rfl (fun t ht hW => ⟨⟨(0 : Int32), (upd oc_letters k (oc_signs pt), u168.1, u168.2), rfl, by obtain rfl := congrArg Prod.fst hw168; obtain rfl := congrArg Prod.snd hw168; obtain rfl := congrArg Prod.fst hw157; obtain rfl := congrArg Prod.snd hw157; unfold f_X2_takeClause; rw [if_neg c1, if_neg c3, if_neg c8, if_neg c9, if_neg c12, if_pos c15, if_neg c16, if_pos c17] <;> rfl, by rw [ht]; exact hP, hD⟩, hS.F ht⟩) hS.2.2 dX2_takeClause_179
                · refine lv_iconst (v := (1 : Int32)) hx hb dX2_takeClause_174 (by decide) ?_
                  refine lv_goto (tgt := 179) hx hb dX2_takeClause_175 (by decide) ?_
                  exact W.zret (v := (1 : Int32)) hx hb hr rfl (fun t ht hW => ⟨⟨(1 : Int32), (upd oc_letters k (oc_signs pt), u168.1, u168.2), rfl, by obtain rfl := congrArg Prod.fst hw168; obtain rfl := congrArg Prod.snd hw168; obtain rfl := congrArg Prod.fst hw157; obtain rfl := congrArg Prod.snd hw157; unfold f_X2_takeClause; rw [if_neg c1, if_neg c3, if_neg c8, if_neg c9, if_neg c12, if_pos c15, if_neg c16, if_neg c17] <;> rfl, by rw [ht]; exact hP, hD⟩, hS.F ht⟩) hS.2.2 dX2_takeClause_179
            · refine lv_lookup (off := 196) (tgt := 233) hx hb dX2_takeClause_37 (by decide) (by rw [lv_osw c3 (by decide)]; rw [lv_osw c8 (by decide)]; rw [lv_osw c9 (by decide)]; rw [lv_osw c12 (by decide)]; rw [lv_osw c15 (by decide)]; rfl) (by decide) ?_
              refine lv_iconst (v := (0 : Int32)) hx hb dX2_takeClause_233 (by decide) ?_
              exact W.zret (v := (0 : Int32)) hx hb hr rfl (fun t ht hW => ⟨⟨(0 : Int32), (upd oc_letters k (oc_signs pt), oc_numbers, pt), rfl, by unfold f_X2_takeClause; rw [if_neg c1, if_neg c3, if_neg c8, if_neg c9, if_neg c12, if_neg c15] <;> rfl, by rw [ht]; exact hP, hD⟩, hS.F ht⟩) hS.2.2 dX2_takeClause_234
theorem takeClause_l {f g h : Nat → Int32} {ln pt k : Nat} (hp : pt ≤ ln) (hl : ln ≤ 100) : (f_X2_takeClause f g h ln pt k).2.2.2 ≤ ln := by
  unfold f_X2_takeClause
  refine iteP (P := fun x : Int32 × (Nat → Int32) × (Nat → Int32) × Nat => x.2.2.2 ≤ ln) (fun _ => hp) (fun h0 => ?_)
  have h2 : ¬ ln ≤ pt := fun q => h0 ((nI_leI (a := ln) (b := pt) (by omega) (by omega)).mpr q)
  have h1 : pt + 1 ≤ ln := by omega
  repeat' refine iteP (P := fun x : Int32 × (Nat → Int32) × (Nat → Int32) × Nat => x.2.2.2 ≤ ln) (fun _ => ?_) (fun _ => ?_)
  all_goals dsimp only
  all_goals first
    | with_reducible exact hp
    | with_reducible exact takeNumberd1_l h1 hl
    | with_reducible exact takeNumberd3_l h1 hl
    | with_reducible exact takeNumberd1_l (takeNumberd1_l h1 hl) hl
    | with_reducible exact takeNumberd3_l (takeNumberd1_l h1 hl) hl
    | with_reducible exact takeNumberd2_l (takeNumberd1_l h1 hl) hl
    | with_reducible exact takeSign_l (takeNumberd2_l (takeNumberd1_l h1 hl) hl) hl
    | with_reducible exact takeNumberd2_l (takeSign_l (takeNumberd2_l (takeNumberd1_l h1 hl) hl) hl) hl
theorem takeClause_le {f g h : Nat → Int32} {ln pt k : Nat} {r : Int32} {u : (Nat → Int32) × (Nat → Int32) × Nat} (hw : (r, u) = f_X2_takeClause f g h ln pt k) (hp : pt ≤ ln) (hl : ln ≤ 100) : u.2.2 ≤ ln := by
  rw [show u = (f_X2_takeClause f g h ln pt k).2 from congrArg Prod.snd hw]
  exact takeClause_l hp hl
def bd_X2_parse_12 (oc_signs : Nat → Int32) (ln : Nat) (k12 : Nat) (z12 : (Nat → Int32) × (Nat → Int32) × Nat × Nat) : ((Nat → Int32) × (Nat → Int32) × Nat × Nat) ⊕ (Int32 × (Nat → Int32) × (Nat → Int32) × Nat × Nat) :=
  if (f_X2_takeClause oc_signs z12.1 z12.2.1 ln z12.2.2.2 k12).1 = (0 : Int32) then (.inr (nI (f_X2_takeClause oc_signs z12.1 z12.2.1 ln z12.2.2.2 k12).2.2.2, ((f_X2_takeClause oc_signs z12.1 z12.2.1 ln z12.2.2.2 k12).2.1, (f_X2_takeClause oc_signs z12.1 z12.2.1 ln z12.2.2.2 k12).2.2.1, z12.2.2.1, (f_X2_takeClause oc_signs z12.1 z12.2.1 ln z12.2.2.2 k12).2.2.2))) else (if nI (f_X2_takeClause oc_signs z12.1 z12.2.1 ln z12.2.2.2 k12).2.2.2 = nI ln then (.inr ((-5 : Int32), ((f_X2_takeClause oc_signs z12.1 z12.2.1 ln z12.2.2.2 k12).2.1, (f_X2_takeClause oc_signs z12.1 z12.2.1 ln z12.2.2.2 k12).2.2.1, z12.2.2.1 + 1, (f_X2_takeClause oc_signs z12.1 z12.2.1 ln z12.2.2.2 k12).2.2.2))) else (if nI (z12.2.2.1 + 1) = (12 : Int32) then (.inr (nI (f_X2_takeClause oc_signs z12.1 z12.2.1 ln z12.2.2.2 k12).2.2.2, ((f_X2_takeClause oc_signs z12.1 z12.2.1 ln z12.2.2.2 k12).2.1, (f_X2_takeClause oc_signs z12.1 z12.2.1 ln z12.2.2.2 k12).2.2.1, z12.2.2.1 + 1, (f_X2_takeClause oc_signs z12.1 z12.2.1 ln z12.2.2.2 k12).2.2.2))) else (if (f_X2_takeSign oc_signs (59 : Int32) ln (f_X2_takeClause oc_signs z12.1 z12.2.1 ln z12.2.2.2 k12).2.2.2).1 = (0 : Int32) then (.inr (nI (f_X2_takeSign oc_signs (59 : Int32) ln (f_X2_takeClause oc_signs z12.1 z12.2.1 ln z12.2.2.2 k12).2.2.2).2, ((f_X2_takeClause oc_signs z12.1 z12.2.1 ln z12.2.2.2 k12).2.1, (f_X2_takeClause oc_signs z12.1 z12.2.1 ln z12.2.2.2 k12).2.2.1, z12.2.2.1 + 1, (f_X2_takeSign oc_signs (59 : Int32) ln (f_X2_takeClause oc_signs z12.1 z12.2.1 ln z12.2.2.2 k12).2.2.2).2))) else (.inl ((f_X2_takeClause oc_signs z12.1 z12.2.1 ln z12.2.2.2 k12).2.1, (f_X2_takeClause oc_signs z12.1 z12.2.1 ln z12.2.2.2 k12).2.2.1, z12.2.2.1 + 1, (f_X2_takeSign oc_signs (59 : Int32) ln (f_X2_takeClause oc_signs z12.1 z12.2.1 ln z12.2.2.2 k12).2.2.2).2)))))
def f_X2_parse (oc_signs : Nat → Int32) (oc_letters : Nat → Int32) (oc_numbers : Nat → Int32) (ln : Nat) : Int32 × (Nat → Int32) × (Nat → Int32) × Nat × Nat :=
  match itE (bd_X2_parse_12 oc_signs ln) 12 (oc_letters, oc_numbers, 0, 0) with | .inl z12 => (nI z12.2.2.2, z12) | .inr r => r
theorem parse_in {f : Nat → Int32} {ln : Nat} (hl : ln ≤ 100) {z0 : (Nat → Int32) × (Nat → Int32) × Nat × Nat} (h0 : z0.2.2.2 ≤ ln) : ∀ (k : Nat) (z : (Nat → Int32) × (Nat → Int32) × Nat × Nat), itE (bd_X2_parse_12 f ln) k z0 = .inl z → z.2.2.2 ≤ ln ∧ z.2.2.1 = z0.2.2.1 + k
  | 0, z, h => by cases h; exact ⟨h0, rfl⟩
  | k + 1, z, h => by
    cases hy : itE (bd_X2_parse_12 f ln) k z0 with
    | inr r =>
      have := itE_end' hy 1
      rw [this] at h
      cases h
    | inl y =>
      rw [itE_go hy] at h
      obtain ⟨ih, ic⟩ := parse_in hl h0 k y hy
      unfold bd_X2_parse_12 at h
      split at h
      · cases h
      · split at h
        · cases h
        · split at h
          · cases h
          · split at h
            · cases h
            · cases h
              exact ⟨takeSign_l (takeClause_l ih hl) hl, by show y.2.2.1 + 1 = _; omega⟩

set_option maxHeartbeats 4000000 in
set_option maxRecDepth 100000 in
theorem c_X2_parse (l : Launch) (D : va_G) (cy : Nat → ClassId) (oc : Nat → Nat) (oc_signs : Nat → Int32) (oc_letters : Nat → Int32) (oc_numbers : Nat → Int32) (oc_clauses : Int32) (oc_at : Int32) (ln : Nat) (hln : ln ≤ 100) : RwI (S := (Nat → Int32) × (Nat → Int32) × Nat × Nat) l D cy yX2_parse (.code yX2_parse cX2_parse 2 (some .int)) 2 (wX2 cy oc oc_signs oc_letters oc_numbers (nI ln) oc_clauses oc_at) [.ref (oc 0)] (fun rr u => (rr, u) = f_X2_parse oc_signs oc_letters oc_numbers ln) (fun u => wX2 cy oc oc_signs u.1 u.2.1 (nI ln) (nI u.2.2.1) (nI u.2.2.2)) := by
  intro sz
  refine Met.ofW (cc := cX2_parse) (maxL := 2) (ret := (some .int)) (by decide) rfl ?_
  intro pP eE s0 mM args below meth cC s₁ B hml hv
  obtain ⟨rfl, hsz, hP, hKX, hD0⟩ := hv
  have hx := B.exec
  have hb := B.bytes
  have hr := B.returns
  have hG := gw_hts (atoms_spec (ws := _) B.pre)
  have hown : s0.vm.findClass RX2 = some mM.cls := findClass_of_methodNamed B.named
  have hlocks := B.notSynchronized
  subst hsz
  have hD := hD0.self (sz := s0.heap.size)
  generalize hAe : va_A (wX2 cy oc oc_signs oc_letters oc_numbers (nI ln) oc_clauses oc_at) s0.heap.size = A at hD ⊢
  have hA : ∀ q : Nat, s0.heap.size ≤ q → A q := fun q h => by rw [← hAe]; exact Or.inr h
  have hS : va_S A s0.heap s0.heap [] := va_S.rf
  have hl := lv_entry ([.ref (oc 0)]) (n := 2) (Nat.le_of_ble_eq_true rfl)
  rw [lg_entry_eq]
  generalize (lg_sl ([.ref (oc 0)]) ++ List.replicate (2 - (lg_sl ([.ref (oc 0)])).length) Slot.unset).toArray = ls at hl ⊢
  have hl : lv_has ls 2 [(0, .ref (oc 0))] := hl
  refine lv_aload_n hx hb dX2_parse_0 rfl (lv_at hl 0 rfl) ?_
  refine lv_iconst (v := (0 : Int32)) hx hb dX2_parse_1 (by decide) ?_
  refine pf_X2_26 hx hb hG hown hKX hP hD hS 0 rfl rfl rfl (Nat.le_of_ble_eq_true rfl) dX2_parse_2 (wn := wX2 cy oc oc_signs oc_letters oc_numbers (nI ln) oc_clauses (0 : Int32)) rfl (fun H locs hP hD hS => ?_)
  refine lv_aload_n hx hb dX2_parse_5 rfl (lv_at hl 0 rfl) ?_
  refine lv_iconst (v := (0 : Int32)) hx hb dX2_parse_6 (by decide) ?_
  refine pf_X2_29 hx hb hG hown hKX hP hD hS 0 rfl rfl rfl (Nat.le_of_ble_eq_true rfl) dX2_parse_7 (wn := wX2 cy oc oc_signs oc_letters oc_numbers (nI ln) (0 : Int32) (0 : Int32)) rfl (fun H locs hP hD hS => ?_)
  refine lv_iconst (v := (0 : Int32)) hx hb dX2_parse_10 (by decide) ?_
  refine lv_istore_n (lv' := [(1, .int (0 : Int32)), (0, .ref (oc 0))]) hx hb dX2_parse_11 rfl hl (by decide) rfl (fun ls hl => ?_)
  refine loopE (bd_X2_parse_12 oc_signs ln) (oc_letters, oc_numbers, 0, 0) 12 (fun k12 z12 => [(1, .int (nI k12)), (0, .ref (oc 0))]) (fun k12 z12 => wX2 cy oc oc_signs z12.1 z12.2.1 (nI ln) (nI z12.2.2.1) (nI z12.2.2.2)) hP hD hS (lv_sub hl [0, 1] rfl) (fun k12 z12 H locs ls hk12 hz12 hP hD hS hl ih12 => ?_)
  refine lv_iload_n hx hb dX2_parse_12 rfl (lv_at hl 0 rfl) ?_
  refine lv_bipush (v := (12 : Int32)) hx hb dX2_parse_13 (by decide) ?_
  refine lv_icmp_ge (tgt := 84) hx hb dX2_parse_15 (by decide) (fun c1 => ?_) (fun c1 => ?_)
  · have e_k12 : 12 = k12 := Nat.le_antisymm ((le_n (N := 12) (k := k12) rfl (by omega) (by omega)).mp c1) hk12
    subst e_k12
    refine lv_aload_n hx hb dX2_parse_84 rfl (lv_at hl 1 rfl) ?_
    refine gf_X2_26 hx hb hG hown hKX hP 0 rfl rfl dX2_parse_85 ?_
    exact W.iret (v := nI z12.2.2.2) hx hb hr (fun t ht hW => ⟨⟨nI z12.2.2.2, z12, rfl, by unfold f_X2_parse; rw [hz12] <;> (try dsimp only) <;> rfl, by rw [ht]; exact hP, hD⟩, hS.F ht⟩) hS.2.2 dX2_parse_88
  · have hlt12 : k12 < 12 := Nat.lt_of_not_le (fun qq_ => c1 ((le_n (N := 12) (k := k12) rfl (by omega) (by omega)).mpr qq_))
    have hz_le : z12.2.2.2 ≤ ln := (parse_in hln (Nat.zero_le ln) _ _ hz12).1
    refine lv_aload_n hx hb dX2_parse_18 rfl (lv_at hl 1 rfl) ?_
    refine lv_iload_n hx hb dX2_parse_19 rfl (lv_at hl 0 rfl) ?_
    refine cRwV (q0 := 0) (ci := 2) mw17_19 mw17_20 mw17_21 mw2_7 mw17_22 rfl rfl hd_X2_takeClause hx hb hml hown hG hKX (c_X2_takeClause l D cy oc oc_signs z12.1 z12.2.1 (nI z12.2.2.1) ln z12.2.2.2 k12 hln (by omega) (by omega)) ⟨Nat.le_of_ble_eq_true rfl, Nat.le_of_ble_eq_true rfl⟩ ⟨Nat.zero_le _, Nat.zero_le _⟩ hP hD hS hA [0, 1, 2, 3] [] [0, 1, 2, 3] (wr := []) (wn := fun u20 => wX2 cy oc oc_signs u20.1 u20.2.1 (nI ln) (nI z12.2.2.1) (nI u20.2.2)) rfl (by decide) rfl (by decide) (by decide) (fun _ => rfl) (by decide) rfl rfl hl.1 rfl (Nat.le_of_ble_eq_true rfl) dX2_parse_20 (fun r20 u20 H locs hw20 hP hD hS => ?_)
    have hbu20 := takeClause_le hw20 (by omega) hln
    refine lv_if_ne (tgt := 31) hx hb dX2_parse_23 (by decide) (fun c2 => ?_) (fun c2 => ?_)
    · refine lv_aload_n hx hb dX2_parse_31 rfl (lv_at hl 1 rfl) ?_
      refine lv_dup hx hb dX2_parse_32 rfl ?_
      refine gf_X2_29 hx hb hG hown hKX hP 0 rfl rfl dX2_parse_33 ?_
      refine lv_iconst (v := (1 : Int32)) hx hb dX2_parse_36 (by decide) ?_
      refine lv_iadd hx hb dX2_parse_37 ?_
      refine topi_eq (y := nI (z12.2.2.1 + 1)) (aN rfl rfl) ?_
      refine pf_X2_29 hx hb hG hown hKX hP hD hS 0 rfl rfl rfl (Nat.le_of_ble_eq_true rfl) dX2_parse_38 (wn := wX2 cy oc oc_signs u20.1 u20.2.1 (nI ln) (nI (z12.2.2.1 + 1)) (nI u20.2.2)) rfl (fun H locs hP hD hS => ?_)
      refine lv_aload_n hx hb dX2_parse_41 rfl (lv_at hl 1 rfl) ?_
      refine gf_X2_26 hx hb hG hown hKX hP 0 rfl rfl dX2_parse_42 ?_
      refine lv_aload_n hx hb dX2_parse_45 rfl (lv_at hl 1 rfl) ?_
      refine gf_X2_22 hx hb hG hown hKX hP 0 rfl rfl dX2_parse_46 ?_
      refine lv_icmp_ne (tgt := 55) hx hb dX2_parse_49 (by decide) (fun c3 => ?_) (fun c3 => ?_)
      · refine lv_aload_n hx hb dX2_parse_55 rfl (lv_at hl 1 rfl) ?_
        refine gf_X2_29 hx hb hG hown hKX hP 0 rfl rfl dX2_parse_56 ?_
        refine lv_bipush (v := (12 : Int32)) hx hb dX2_parse_59 (by decide) ?_
        refine lv_icmp_eq (tgt := 73) hx hb dX2_parse_61 (by decide) (fun c4 => ?_) (fun c4 => ?_)
        · refine lv_aload_n hx hb dX2_parse_73 rfl (lv_at hl 1 rfl) ?_
          refine gf_X2_26 hx hb hG hown hKX hP 0 rfl rfl dX2_parse_74 ?_
          exact W.iret (v := nI u20.2.2) hx hb hr (fun t ht hW => ⟨⟨nI u20.2.2, (u20.1, u20.2.1, z12.2.2.1 + 1, u20.2.2), rfl, by obtain rfl := congrArg Prod.fst hw20; obtain rfl := congrArg Prod.snd hw20; unfold f_X2_parse; rw [itE_end (r := (nI (f_X2_takeClause oc_signs z12.1 z12.2.1 ln z12.2.2.2 k12).2.2.2, ((f_X2_takeClause oc_signs z12.1 z12.2.1 ln z12.2.2.2 k12).2.1, (f_X2_takeClause oc_signs z12.1 z12.2.1 ln z12.2.2.2 k12).2.2.1, z12.2.2.1 + 1, (f_X2_takeClause oc_signs z12.1 z12.2.1 ln z12.2.2.2 k12).2.2.2))) hz12 hlt12 (by unfold bd_X2_parse_12; rw [if_neg c2, if_neg c3, if_pos c4] <;> rfl)] <;> rfl, by rw [ht]; exact hP, hD⟩, hS.F ht⟩) hS.2.2 dX2_parse_77
        · refine lv_aload_n hx hb dX2_parse_64 rfl (lv_at hl 1 rfl) ?_
          refine lv_bipush (v := (59 : Int32)) hx hb dX2_parse_65 (by decide) ?_
          refine cRwV (q0 := 0) (ci := 2) mw18_3 mw18_4 mw18_5 mw2_7 mw18_6 rfl rfl hd_X2_takeSign hx hb hml hown hG hKX (c_X2_takeSign l D cy oc oc_signs u20.1 u20.2.1 (nI (z12.2.2.1 + 1)) (59 : Int32) ln u20.2.2 hln (by omega)) ⟨Nat.le_of_ble_eq_true rfl, Nat.le_of_ble_eq_true rfl⟩ ⟨Nat.zero_le _, Nat.zero_le _⟩ hP hD hS hA [0, 1, 2, 3] [] [0, 1, 2, 3] (wr := []) (wn := fun u67 => wX2 cy oc oc_signs u20.1 u20.2.1 (nI ln) (nI (z12.2.2.1 + 1)) (nI u67)) rfl (by decide) rfl (by decide) (by decide) (fun _ => rfl) (by decide) rfl rfl hl.1 rfl (Nat.le_of_ble_eq_true rfl) dX2_parse_67 (fun r67 u67 H locs hw67 hP hD hS => ?_)
          have hbu67 := takeSign_le hw67 (by omega) hln
          refine lv_if_ne (tgt := 78) hx hb dX2_parse_70 (by decide) (fun c5 => ?_) (fun c5 => ?_)
          · refine lv_iinc (v := nI (k12 + 1)) (lv' := [(1, .int (nI (k12 + 1))), (0, .ref (oc 0))]) hx hb dX2_parse_78 hl (k := 0) rfl (nI_1 _) (by decide) rfl (fun ls hl => ?_)
            refine lv_goto (tgt := 12) hx hb dX2_parse_81 (by decide) ?_
            exact ih12 (u20.1, u20.2.1, z12.2.2.1 + 1, u67) _ _ _ hlt12 (by obtain rfl := congrArg Prod.fst hw67; obtain rfl := congrArg Prod.snd hw67; obtain rfl := congrArg Prod.fst hw20; obtain rfl := congrArg Prod.snd hw20; unfold bd_X2_parse_12; rw [if_neg c2, if_neg c3, if_neg c4, if_neg c5] <;> rfl) hP hD hS (lv_sub hl [0, 1] rfl)
          · refine lv_aload_n hx hb dX2_parse_73 rfl (lv_at hl 1 rfl) ?_
            refine gf_X2_26 hx hb hG hown hKX hP 0 rfl rfl dX2_parse_74 ?_
            exact W.iret (v := nI u67) hx hb hr (fun t ht hW => ⟨⟨nI u67, (u20.1, u20.2.1, z12.2.2.1 + 1, u67), rfl, by obtain rfl := congrArg Prod.fst hw67; obtain rfl := congrArg Prod.snd hw67; obtain rfl := congrArg Prod.fst hw20; obtain rfl := congrArg Prod.snd hw20; unfold f_X2_parse; rw [itE_end (r := (nI (f_X2_takeSign oc_signs (59 : Int32) ln (f_X2_takeClause oc_signs z12.1 z12.2.1 ln z12.2.2.2 k12).2.2.2).2, ((f_X2_takeClause oc_signs z12.1 z12.2.1 ln z12.2.2.2 k12).2.1, (f_X2_takeClause oc_signs z12.1 z12.2.1 ln z12.2.2.2 k12).2.2.1, z12.2.2.1 + 1, (f_X2_takeSign oc_signs (59 : Int32) ln (f_X2_takeClause oc_signs z12.1 z12.2.1 ln z12.2.2.2 k12).2.2.2).2))) hz12 hlt12 (by unfold bd_X2_parse_12; rw [if_neg c2, if_neg c3, if_neg c4, if_pos c5] <;> rfl)] <;> rfl, by rw [ht]; exact hP, hD⟩, hS.F ht⟩) hS.2.2 dX2_parse_77
      · refine lv_bipush (v := (-5 : Int32)) hx hb dX2_parse_52 (by decide) ?_
        exact W.iret (v := (-5 : Int32)) hx hb hr (fun t ht hW => ⟨⟨(-5 : Int32), (u20.1, u20.2.1, z12.2.2.1 + 1, u20.2.2), rfl, by obtain rfl := congrArg Prod.fst hw20; obtain rfl := congrArg Prod.snd hw20; unfold f_X2_parse; rw [itE_end (r := ((-5 : Int32), ((f_X2_takeClause oc_signs z12.1 z12.2.1 ln z12.2.2.2 k12).2.1, (f_X2_takeClause oc_signs z12.1 z12.2.1 ln z12.2.2.2 k12).2.2.1, z12.2.2.1 + 1, (f_X2_takeClause oc_signs z12.1 z12.2.1 ln z12.2.2.2 k12).2.2.2))) hz12 hlt12 (by unfold bd_X2_parse_12; rw [if_neg c2, if_pos c3] <;> rfl)] <;> rfl, by rw [ht]; exact hP, hD⟩, hS.F ht⟩) hS.2.2 dX2_parse_54
    · refine lv_aload_n hx hb dX2_parse_26 rfl (lv_at hl 1 rfl) ?_
      refine gf_X2_26 hx hb hG hown hKX hP 0 rfl rfl dX2_parse_27 ?_
      exact W.iret (v := nI u20.2.2) hx hb hr (fun t ht hW => ⟨⟨nI u20.2.2, (u20.1, u20.2.1, z12.2.2.1, u20.2.2), rfl, by obtain rfl := congrArg Prod.fst hw20; obtain rfl := congrArg Prod.snd hw20; unfold f_X2_parse; rw [itE_end (r := (nI (f_X2_takeClause oc_signs z12.1 z12.2.1 ln z12.2.2.2 k12).2.2.2, ((f_X2_takeClause oc_signs z12.1 z12.2.1 ln z12.2.2.2 k12).2.1, (f_X2_takeClause oc_signs z12.1 z12.2.1 ln z12.2.2.2 k12).2.2.1, z12.2.2.1, (f_X2_takeClause oc_signs z12.1 z12.2.1 ln z12.2.2.2 k12).2.2.2))) hz12 hlt12 (by unfold bd_X2_parse_12; rw [if_pos c2] <;> rfl)] <;> rfl, by rw [ht]; exact hP, hD⟩, hS.F ht⟩) hS.2.2 dX2_parse_30
theorem parse_cl {f g1 g2 : Nat → Int32} {ln : Nat} (hl : ln ≤ 100) : (f_X2_parse f g1 g2 ln).2.2.2.1 ≤ 12 := by
  have key : ∀ k, k ≤ 12 → ∀ r, itE (bd_X2_parse_12 f ln) k (g1, g2, 0, 0) = .inr r → r.2.2.2.1 ≤ 12 := by
    intro k
    induction k with
    | zero => intro _ r h; cases h
    | succ k ih =>
      intro hk r h
      cases hy : itE (bd_X2_parse_12 f ln) k (g1, g2, 0, 0) with
      | inr r' =>
        have := itE_end' hy 1
        rw [this] at h
        cases h
        exact ih (by omega) r hy
      | inl y =>
        rw [itE_go hy] at h
        have hc := (parse_in hl (Nat.zero_le ln) k y hy).2
        have hc : y.2.2.1 = k := by rw [hc]; show 0 + k = k; omega
        unfold bd_X2_parse_12 at h
        split at h
        · cases h; show y.2.2.1 ≤ 12; omega
        · split at h
          · cases h; show y.2.2.1 + 1 ≤ 12; omega
          · split at h
            · cases h; show y.2.2.1 + 1 ≤ 12; omega
            · split at h
              · cases h; show y.2.2.1 + 1 ≤ 12; omega
              · cases h
  unfold f_X2_parse
  cases hz : itE (bd_X2_parse_12 f ln) 12 (g1, g2, 0, 0) with
  | inl z => exact Nat.le_of_eq ((parse_in hl (Nat.zero_le ln) 12 z hz).2.trans (by show 0 + 12 = 12; rfl))
  | inr r => exact key 12 (Nat.le_refl 12) r hz
def f_X2_perform (oc_letters : Nat → Int32) (oc_numbers : Nat → Int32) (os_kind : Nat → Int32) (os_limit : Nat → Int32) (os_retention : Nat → Int32) (os_quota : Nat → Int32) (os_refers : Nat → Int32) (os_lossNow : Int32) (n : Nat) (k : Nat) (cl : Nat) : Int32 × (Nat → Int32) × (Nat → Int32) × (Nat → Int32) × (Nat → Int32) × (Nat → Int32) × Nat × Int32 :=
  if nI k < (0 : Int32) then ((-1 : Int32), (os_kind, os_limit, os_retention, os_quota, os_refers, n, os_lossNow)) else (if nI k < nI cl then (if (oc_letters k) = (99 : Int32) then ((f_X3_addContract os_kind os_limit os_retention os_quota os_refers (oc_numbers (k * 3)) (oc_numbers ((k * 3) + 1)) (oc_numbers ((k * 3) + 2)) n).1, ((f_X3_addContract os_kind os_limit os_retention os_quota os_refers (oc_numbers (k * 3)) (oc_numbers ((k * 3) + 1)) (oc_numbers ((k * 3) + 2)) n).2.1, (f_X3_addContract os_kind os_limit os_retention os_quota os_refers (oc_numbers (k * 3)) (oc_numbers ((k * 3) + 1)) (oc_numbers ((k * 3) + 2)) n).2.2.1, (f_X3_addContract os_kind os_limit os_retention os_quota os_refers (oc_numbers (k * 3)) (oc_numbers ((k * 3) + 1)) (oc_numbers ((k * 3) + 2)) n).2.2.2.1, (f_X3_addContract os_kind os_limit os_retention os_quota os_refers (oc_numbers (k * 3)) (oc_numbers ((k * 3) + 1)) (oc_numbers ((k * 3) + 2)) n).2.2.2.2.1, (f_X3_addContract os_kind os_limit os_retention os_quota os_refers (oc_numbers (k * 3)) (oc_numbers ((k * 3) + 1)) (oc_numbers ((k * 3) + 2)) n).2.2.2.2.2.1, (f_X3_addContract os_kind os_limit os_retention os_quota os_refers (oc_numbers (k * 3)) (oc_numbers ((k * 3) + 1)) (oc_numbers ((k * 3) + 2)) n).2.2.2.2.2.2, os_lossNow)) else (if (oc_letters k) = (108 : Int32) then ((f_X3_changeLoss os_lossNow (oc_numbers (k * 3))).1, (os_kind, os_limit, os_retention, os_quota, os_refers, n, (f_X3_changeLoss os_lossNow (oc_numbers (k * 3))).2)) else (if (oc_letters k) = (110 : Int32) then ((f_X3_link os_refers (oc_numbers (k * 3)) (oc_numbers ((k * 3) + 1)) (0 : Int32) n).1, (os_kind, os_limit, os_retention, os_quota, (f_X3_link os_refers (oc_numbers (k * 3)) (oc_numbers ((k * 3) + 1)) (0 : Int32) n).2, n, os_lossNow)) else (if (oc_letters k) = (113 : Int32) then ((f_X3_change os_kind os_limit os_retention os_quota (oc_numbers (k * 3)) (3 : Int32) (oc_numbers ((k * 3) + 1)) n).1, ((f_X3_change os_kind os_limit os_retention os_quota (oc_numbers (k * 3)) (3 : Int32) (oc_numbers ((k * 3) + 1)) n).2.1, (f_X3_change os_kind os_limit os_retention os_quota (oc_numbers (k * 3)) (3 : Int32) (oc_numbers ((k * 3) + 1)) n).2.2.1, (f_X3_change os_kind os_limit os_retention os_quota (oc_numbers (k * 3)) (3 : Int32) (oc_numbers ((k * 3) + 1)) n).2.2.2.1, (f_X3_change os_kind os_limit os_retention os_quota (oc_numbers (k * 3)) (3 : Int32) (oc_numbers ((k * 3) + 1)) n).2.2.2.2, os_refers, n, os_lossNow)) else (if (oc_letters k) = (114 : Int32) then ((f_X3_link os_refers (oc_numbers (k * 3)) (oc_numbers ((k * 3) + 1)) (1 : Int32) n).1, (os_kind, os_limit, os_retention, os_quota, (f_X3_link os_refers (oc_numbers (k * 3)) (oc_numbers ((k * 3) + 1)) (1 : Int32) n).2, n, os_lossNow)) else ((-1 : Int32), (os_kind, os_limit, os_retention, os_quota, os_refers, n, os_lossNow))))))) else ((-1 : Int32), (os_kind, os_limit, os_retention, os_quota, os_refers, n, os_lossNow)))
set_option maxHeartbeats 4000000 in
set_option maxRecDepth 100000 in
theorem c_X2_perform (l : Launch) (D : va_G) (cy : Nat → ClassId) (oc : Nat → Nat) (os : Nat → Nat) (oc_signs : Nat → Int32) (oc_letters : Nat → Int32) (oc_numbers : Nat → Int32) (oc_length : Int32) (oc_at : Int32) (os_kind : Nat → Int32) (os_limit : Nat → Int32) (os_retention : Nat → Int32) (os_quota : Nat → Int32) (os_refers : Nat → Int32) (os_lossNow : Int32) (n : Nat) (k : Nat) (cl : Nat) (hn : n ≤ 6) (hk : k < 12) (hcl : cl ≤ 12) : RwI (S := (Nat → Int32) × (Nat → Int32) × (Nat → Int32) × (Nat → Int32) × (Nat → Int32) × Nat × Int32) l D cy yX2_perform (.code yX2_perform cX2_perform 6 (some .int)) 3 ((wX2 cy oc oc_signs oc_letters oc_numbers oc_length (nI cl) oc_at) ++ (wX3 cy os os_kind os_limit os_retention os_quota os_refers (nI n) os_lossNow)) [.ref (oc 0), .int (nI k), .ref (os 0)] (fun rr u => (rr, u) = f_X2_perform oc_letters oc_numbers os_kind os_limit os_retention os_quota os_refers os_lossNow n k cl) (fun u => (wX2 cy oc oc_signs oc_letters oc_numbers oc_length (nI cl) oc_at) ++ (wX3 cy os u.1 u.2.1 u.2.2.1 u.2.2.2.1 u.2.2.2.2.1 (nI u.2.2.2.2.2.1) u.2.2.2.2.2.2)) := by
  intro sz
  refine Met.ofW (cc := cX2_perform) (maxL := 6) (ret := (some .int)) (by decide) rfl ?_
  intro pP eE s0 mM args below meth cC s₁ B hml hv
  obtain ⟨rfl, hsz, hP, hKX, hD0⟩ := hv
  have hx := B.exec
  have hb := B.bytes
  have hr := B.returns
  have hG := gw_hts (atoms_spec (ws := _) B.pre)
  have hown : s0.vm.findClass RX2 = some mM.cls := findClass_of_methodNamed B.named
  have hlocks := B.notSynchronized
  subst hsz
  have hD := hD0.self (sz := s0.heap.size)
  generalize hAe : va_A ((wX2 cy oc oc_signs oc_letters oc_numbers oc_length (nI cl) oc_at) ++ (wX3 cy os os_kind os_limit os_retention os_quota os_refers (nI n) os_lossNow)) s0.heap.size = A at hD ⊢
  have hA : ∀ q : Nat, s0.heap.size ≤ q → A q := fun q h => by rw [← hAe]; exact Or.inr h
  have hS : va_S A s0.heap s0.heap [] := va_S.rf
  have hl := lv_entry ([.ref (oc 0), .int (nI k), .ref (os 0)]) (n := 6) (Nat.le_of_ble_eq_true rfl)
  rw [lg_entry_eq]
  generalize (lg_sl ([.ref (oc 0), .int (nI k), .ref (os 0)]) ++ List.replicate (6 - (lg_sl ([.ref (oc 0), .int (nI k), .ref (os 0)])).length) Slot.unset).toArray = ls at hl ⊢
  have hl : lv_has ls 6 [(0, .ref (oc 0)), (1, .int (nI k)), (2, .ref (os 0))] := hl
  refine lv_iload_n hx hb dX2_perform_0 rfl (lv_at hl 1 rfl) ?_
  refine lv_if_lt (tgt := 12) hx hb dX2_perform_1 (by decide) (fun c1 => ?_) (fun c1 => ?_)
  · refine lv_iconst (v := (-1 : Int32)) hx hb dX2_perform_12 (by decide) ?_
    exact W.iret (v := (-1 : Int32)) hx hb hr (fun t ht hW => ⟨⟨(-1 : Int32), (os_kind, os_limit, os_retention, os_quota, os_refers, n, os_lossNow), rfl, by unfold f_X2_perform; rw [if_pos c1] <;> rfl, by rw [ht]; exact hP, hD⟩, hS.F ht⟩) hS.2.2 dX2_perform_13
  · refine lv_iload_n hx hb dX2_perform_4 rfl (lv_at hl 1 rfl) ?_
    refine lv_aload_n hx hb dX2_perform_5 rfl (lv_at hl 0 rfl) ?_
    refine gf_X2_29 hx hb hG hown hKX hP 0 rfl rfl dX2_perform_6 ?_
    refine lv_icmp_lt (tgt := 14) hx hb dX2_perform_9 (by decide) (fun c2 => ?_) (fun c2 => ?_)
    · refine lv_iload_n hx hb dX2_perform_14 rfl (lv_at hl 1 rfl) ?_
      refine lv_iconst (v := (3 : Int32)) hx hb dX2_perform_15 (by decide) ?_
      refine lv_imul hx hb dX2_perform_16 ?_
      refine topi_eq (y := nI (k * 3)) (mN rfl rfl) ?_
      refine lv_istore_n (lv' := [(3, .int (nI (k * 3))), (0, .ref (oc 0)), (1, .int (nI k)), (2, .ref (os 0))]) hx hb dX2_perform_17 rfl hl (by decide) rfl (fun ls hl => ?_)
      refine lv_aload_n hx hb dX2_perform_18 rfl (lv_at hl 1 rfl) ?_
      refine gf_X2_19 hx hb hG hown hKX hP 0 rfl rfl dX2_perform_19 ?_
      refine lv_iload_n hx hb dX2_perform_22 rfl (lv_at hl 0 rfl) ?_
      refine iald_n hx hb hKX hP 3 rfl rfl (by omega) (by decide) dX2_perform_23 ?_
      refine lv_istore (lv' := [(4, .int (oc_numbers (k * 3))), (3, .int (nI (k * 3))), (0, .ref (oc 0)), (1, .int (nI k)), (2, .ref (os 0))]) hx hb dX2_perform_24 hl (by decide) rfl (fun ls hl => ?_)
      refine lv_aload_n hx hb dX2_perform_26 rfl (lv_at hl 2 rfl) ?_
      refine gf_X2_19 hx hb hG hown hKX hP 0 rfl rfl dX2_perform_27 ?_
      refine lv_iload_n hx hb dX2_perform_30 rfl (lv_at hl 1 rfl) ?_
      refine lv_iconst (v := (1 : Int32)) hx hb dX2_perform_31 (by decide) ?_
      refine lv_iadd hx hb dX2_perform_32 ?_
      refine topi_eq (y := nI ((k * 3) + 1)) (aN rfl rfl) ?_
      refine iald_n hx hb hKX hP 3 rfl rfl (by omega) (by decide) dX2_perform_33 ?_
      refine lv_istore (lv' := [(5, .int (oc_numbers ((k * 3) + 1))), (4, .int (oc_numbers (k * 3))), (3, .int (nI (k * 3))), (0, .ref (oc 0)), (1, .int (nI k)), (2, .ref (os 0))]) hx hb dX2_perform_34 hl (by decide) rfl (fun ls hl => ?_)
      refine lv_aload_n hx hb dX2_perform_36 rfl (lv_at hl 3 rfl) ?_
      refine gf_X2_15 hx hb hG hown hKX hP 0 rfl rfl dX2_perform_37 ?_
      refine lv_iload_n hx hb dX2_perform_40 rfl (lv_at hl 4 rfl) ?_
      refine iald_n hx hb hKX hP 2 rfl rfl (by omega) (by decide) dX2_perform_41 ?_
      by_cases c3 : (oc_letters k) = (99 : Int32)
      · refine lv_lookup (off := 50) (tgt := 92) hx hb dX2_perform_42 (by decide) (by rw [c3]; decide) (by decide) ?_
        refine lv_aload_n hx hb dX2_perform_92 rfl (lv_at hl 5 rfl) ?_
        refine lv_iload hx hb dX2_perform_93 (lv_at hl 1 rfl) ?_
        refine lv_iload hx hb dX2_perform_95 (lv_at hl 0 rfl) ?_
        refine lv_aload_n hx hb dX2_perform_97 rfl (lv_at hl 3 rfl) ?_
        refine gf_X2_19 hx hb hG hown hKX hP 0 rfl rfl dX2_perform_98 ?_
        refine lv_iload_n hx hb dX2_perform_101 rfl (lv_at hl 2 rfl) ?_
        refine lv_iconst (v := (2 : Int32)) hx hb dX2_perform_102 (by decide) ?_
        refine lv_iadd hx hb dX2_perform_103 ?_
        refine topi_eq (y := nI ((k * 3) + 2)) (aN rfl rfl) ?_
        refine iald_n hx hb hKX hP 3 rfl rfl (by omega) (by decide) dX2_perform_104 ?_
        refine cRwV (q0 := 0) (ci := 3) mw18_15 mw6_13 mw6_14 mw2_2 mw6_15 rfl rfl hd_X3_addContract hx hb hml hown hG hKX (c_X3_addContract l D cy os os_kind os_limit os_retention os_quota os_refers os_lossNow (oc_numbers (k * 3)) (oc_numbers ((k * 3) + 1)) (oc_numbers ((k * 3) + 2)) n hn) ⟨Nat.le_of_ble_eq_true rfl, Nat.le_of_ble_eq_true rfl⟩ ⟨Nat.zero_le _, Nat.zero_le _⟩ hP hD hS hA [4, 5, 6, 7, 8, 9] [0, 1, 2, 3] [0, 1, 2, 3, 4, 5, 6, 7, 8, 9] (wr := wX2 cy oc oc_signs oc_letters oc_numbers oc_length (nI cl) oc_at) (wn := fun u105 => (wX2 cy oc oc_signs oc_letters oc_numbers oc_length (nI cl) oc_at) ++ (wX3 cy os u105.1 u105.2.1 u105.2.2.1 u105.2.2.2.1 u105.2.2.2.2.1 (nI u105.2.2.2.2.2) os_lossNow)) rfl (by decide) rfl (by decide) (by decide) (fun _ => rfl) (by decide) rfl rfl hl.1 rfl (Nat.le_of_ble_eq_true rfl) dX2_perform_105 (fun r105 u105 H locs hw105 hP hD hS => ?_)
        exact W.iret (v := r105) hx hb hr (fun t ht hW => ⟨⟨r105, (u105.1, u105.2.1, u105.2.2.1, u105.2.2.2.1, u105.2.2.2.2.1, u105.2.2.2.2.2, os_lossNow), rfl, by obtain rfl := congrArg Prod.fst hw105; obtain rfl := congrArg Prod.snd hw105; unfold f_X2_perform; rw [if_neg c1, if_pos c2, if_pos c3] <;> rfl, by rw [ht]; exact hP, hD⟩, hS.F ht⟩) hS.2.2 dX2_perform_108
      · by_cases c4 : (oc_letters k) = (108 : Int32)
        · refine lv_lookup (off := 97) (tgt := 139) hx hb dX2_perform_42 (by decide) (by rw [c4]; decide) (by decide) ?_
          refine lv_aload_n hx hb dX2_perform_139 rfl (lv_at hl 5 rfl) ?_
          refine lv_iload hx hb dX2_perform_140 (lv_at hl 1 rfl) ?_
          refine cRwV (q0 := 0) (ci := 3) mw18_18 mw9_5 mw9_6 mw2_2 mw9_7 rfl rfl hd_X3_changeLoss hx hb hml hown hG hKX (c_X3_changeLoss l D cy os os_kind os_limit os_retention os_quota os_refers (nI n) os_lossNow (oc_numbers (k * 3))) ⟨Nat.le_of_ble_eq_true rfl, Nat.le_of_ble_eq_true rfl⟩ ⟨Nat.zero_le _, Nat.zero_le _⟩ hP hD hS hA [4, 5, 6, 7, 8, 9] [0, 1, 2, 3] [0, 1, 2, 3, 4, 5, 6, 7, 8, 9] (wr := wX2 cy oc oc_signs oc_letters oc_numbers oc_length (nI cl) oc_at) (wn := fun u142 => (wX2 cy oc oc_signs oc_letters oc_numbers oc_length (nI cl) oc_at) ++ (wX3 cy os os_kind os_limit os_retention os_quota os_refers (nI n) u142)) rfl (by decide) rfl (by decide) (by decide) (fun _ => rfl) (by decide) rfl rfl hl.1 rfl (Nat.le_of_ble_eq_true rfl) dX2_perform_142 (fun r142 u142 H locs hw142 hP hD hS => ?_)
          exact W.iret (v := r142) hx hb hr (fun t ht hW => ⟨⟨r142, (os_kind, os_limit, os_retention, os_quota, os_refers, n, u142), rfl, by obtain rfl := congrArg Prod.fst hw142; obtain rfl := congrArg Prod.snd hw142; unfold f_X2_perform; rw [if_neg c1, if_pos c2, if_neg c3, if_pos c4] <;> rfl, by rw [ht]; exact hP, hD⟩, hS.F ht⟩) hS.2.2 dX2_perform_145
        · by_cases c5 : (oc_letters k) = (110 : Int32)
          · refine lv_lookup (off := 77) (tgt := 119) hx hb dX2_perform_42 (by decide) (by rw [c5]; decide) (by decide) ?_
            refine lv_aload_n hx hb dX2_perform_119 rfl (lv_at hl 5 rfl) ?_
            refine lv_iload hx hb dX2_perform_120 (lv_at hl 1 rfl) ?_
            refine lv_iload hx hb dX2_perform_122 (lv_at hl 0 rfl) ?_
            refine lv_iconst (v := (0 : Int32)) hx hb dX2_perform_124 (by decide) ?_
            refine cRwV (q0 := 0) (ci := 3) mw18_16 mw8_15 mw8_16 mw2_2 mw8_17 rfl rfl hd_X3_link hx hb hml hown hG hKX (c_X3_link l D cy os os_kind os_limit os_retention os_quota os_refers os_lossNow (oc_numbers (k * 3)) (oc_numbers ((k * 3) + 1)) (0 : Int32) n hn) ⟨Nat.le_of_ble_eq_true rfl, Nat.le_of_ble_eq_true rfl⟩ ⟨Nat.zero_le _, Nat.zero_le _⟩ hP hD hS hA [4, 5, 6, 7, 8, 9] [0, 1, 2, 3] [0, 1, 2, 3, 4, 5, 6, 7, 8, 9] (wr := wX2 cy oc oc_signs oc_letters oc_numbers oc_length (nI cl) oc_at) (wn := fun u125 => (wX2 cy oc oc_signs oc_letters oc_numbers oc_length (nI cl) oc_at) ++ (wX3 cy os os_kind os_limit os_retention os_quota u125 (nI n) os_lossNow)) rfl (by decide) rfl (by decide) (by decide) (fun _ => rfl) (by decide) rfl rfl hl.1 rfl (Nat.le_of_ble_eq_true rfl) dX2_perform_125 (fun r125 u125 H locs hw125 hP hD hS => ?_)
            exact W.iret (v := r125) hx hb hr (fun t ht hW => ⟨⟨r125, (os_kind, os_limit, os_retention, os_quota, u125, n, os_lossNow), rfl, by obtain rfl := congrArg Prod.fst hw125; obtain rfl := congrArg Prod.snd hw125; unfold f_X2_perform; rw [if_neg c1, if_pos c2, if_neg c3, if_neg c4, if_pos c5] <;> rfl, by rw [ht]; exact hP, hD⟩, hS.F ht⟩) hS.2.2 dX2_perform_128
          · by_cases c6 : (oc_letters k) = (113 : Int32)
            · refine lv_lookup (off := 87) (tgt := 129) hx hb dX2_perform_42 (by decide) (by rw [c6]; decide) (by decide) ?_
              refine lv_aload_n hx hb dX2_perform_129 rfl (lv_at hl 5 rfl) ?_
              refine lv_iload hx hb dX2_perform_130 (lv_at hl 1 rfl) ?_
              refine lv_iconst (v := (3 : Int32)) hx hb dX2_perform_132 (by decide) ?_
              refine lv_iload hx hb dX2_perform_133 (lv_at hl 0 rfl) ?_
              refine cRwV (q0 := 0) (ci := 3) mw18_17 mw7_11 mw7_12 mw2_2 mw7_13 rfl rfl hd_X3_change hx hb hml hown hG hKX (c_X3_change l D cy os os_kind os_limit os_retention os_quota os_refers os_lossNow (oc_numbers (k * 3)) (3 : Int32) (oc_numbers ((k * 3) + 1)) n hn) ⟨Nat.le_of_ble_eq_true rfl, Nat.le_of_ble_eq_true rfl⟩ ⟨Nat.zero_le _, Nat.zero_le _⟩ hP hD hS hA [4, 5, 6, 7, 8, 9] [0, 1, 2, 3] [0, 1, 2, 3, 4, 5, 6, 7, 8, 9] (wr := wX2 cy oc oc_signs oc_letters oc_numbers oc_length (nI cl) oc_at) (wn := fun u135 => (wX2 cy oc oc_signs oc_letters oc_numbers oc_length (nI cl) oc_at) ++ (wX3 cy os u135.1 u135.2.1 u135.2.2.1 u135.2.2.2 os_refers (nI n) os_lossNow)) rfl (by decide) rfl (by decide) (by decide) (fun _ => rfl) (by decide) rfl rfl hl.1 rfl (Nat.le_of_ble_eq_true rfl) dX2_perform_135 (fun r135 u135 H locs hw135 hP hD hS => ?_)
              exact W.iret (v := r135) hx hb hr (fun t ht hW => ⟨⟨r135, (u135.1, u135.2.1, u135.2.2.1, u135.2.2.2, os_refers, n, os_lossNow), rfl, by obtain rfl := congrArg Prod.fst hw135; obtain rfl := congrArg Prod.snd hw135; unfold f_X2_perform; rw [if_neg c1, if_pos c2, if_neg c3, if_neg c4, if_neg c5, if_pos c6] <;> rfl, by rw [ht]; exact hP, hD⟩, hS.F ht⟩) hS.2.2 dX2_perform_138
            · by_cases c7 : (oc_letters k) = (114 : Int32)
              · refine lv_lookup (off := 67) (tgt := 109) hx hb dX2_perform_42 (by decide) (by rw [c7]; decide) (by decide) ?_
                refine lv_aload_n hx hb dX2_perform_109 rfl (lv_at hl 5 rfl) ?_
                refine lv_iload hx hb dX2_perform_110 (lv_at hl 1 rfl) ?_
                refine lv_iload hx hb dX2_perform_112 (lv_at hl 0 rfl) ?_
                refine lv_iconst (v := (1 : Int32)) hx hb dX2_perform_114 (by decide) ?_
                refine cRwV (q0 := 0) (ci := 3) mw18_16 mw8_15 mw8_16 mw2_2 mw8_17 rfl rfl hd_X3_link hx hb hml hown hG hKX (c_X3_link l D cy os os_kind os_limit os_retention os_quota os_refers os_lossNow (oc_numbers (k * 3)) (oc_numbers ((k * 3) + 1)) (1 : Int32) n hn) ⟨Nat.le_of_ble_eq_true rfl, Nat.le_of_ble_eq_true rfl⟩ ⟨Nat.zero_le _, Nat.zero_le _⟩ hP hD hS hA [4, 5, 6, 7, 8, 9] [0, 1, 2, 3] [0, 1, 2, 3, 4, 5, 6, 7, 8, 9] (wr := wX2 cy oc oc_signs oc_letters oc_numbers oc_length (nI cl) oc_at) (wn := fun u115 => (wX2 cy oc oc_signs oc_letters oc_numbers oc_length (nI cl) oc_at) ++ (wX3 cy os os_kind os_limit os_retention os_quota u115 (nI n) os_lossNow)) rfl (by decide) rfl (by decide) (by decide) (fun _ => rfl) (by decide) rfl rfl hl.1 rfl (Nat.le_of_ble_eq_true rfl) dX2_perform_115 (fun r115 u115 H locs hw115 hP hD hS => ?_)
                exact W.iret (v := r115) hx hb hr (fun t ht hW => ⟨⟨r115, (os_kind, os_limit, os_retention, os_quota, u115, n, os_lossNow), rfl, by obtain rfl := congrArg Prod.fst hw115; obtain rfl := congrArg Prod.snd hw115; unfold f_X2_perform; rw [if_neg c1, if_pos c2, if_neg c3, if_neg c4, if_neg c5, if_neg c6, if_pos c7] <;> rfl, by rw [ht]; exact hP, hD⟩, hS.F ht⟩) hS.2.2 dX2_perform_118
              · refine lv_lookup (off := 104) (tgt := 146) hx hb dX2_perform_42 (by decide) (by rw [lv_osw c3 (by decide)]; rw [lv_osw c4 (by decide)]; rw [lv_osw c5 (by decide)]; rw [lv_osw c6 (by decide)]; rw [lv_osw c7 (by decide)]; rfl) (by decide) ?_
                refine lv_iconst (v := (-1 : Int32)) hx hb dX2_perform_146 (by decide) ?_
                exact W.iret (v := (-1 : Int32)) hx hb hr (fun t ht hW => ⟨⟨(-1 : Int32), (os_kind, os_limit, os_retention, os_quota, os_refers, n, os_lossNow), rfl, by unfold f_X2_perform; rw [if_neg c1, if_pos c2, if_neg c3, if_neg c4, if_neg c5, if_neg c6, if_neg c7] <;> rfl, by rw [ht]; exact hP, hD⟩, hS.F ht⟩) hS.2.2 dX2_perform_147
    · refine lv_iconst (v := (-1 : Int32)) hx hb dX2_perform_12 (by decide) ?_
      exact W.iret (v := (-1 : Int32)) hx hb hr (fun t ht hW => ⟨⟨(-1 : Int32), (os_kind, os_limit, os_retention, os_quota, os_refers, n, os_lossNow), rfl, by unfold f_X2_perform; rw [if_neg c1, if_neg c2] <;> rfl, by rw [ht]; exact hP, hD⟩, hS.F ht⟩) hS.2.2 dX2_perform_13
