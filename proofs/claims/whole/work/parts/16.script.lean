theorem iteP {α : Type} {P : α → Prop} {c : Prop} [Decidable c] {a b : α} (ha : c → P a) (hb : ¬ c → P b) : P (if c then a else b) := by
  by_cases h : c
  · rw [if_pos h]; exact ha h
  · rw [if_neg h]; exact hb h
def f_X2_append (oc_signs : Nat → Int32) (sign : Int32) (ln : Nat) : Int32 × (Nat → Int32) × Nat :=
  if sign < (0 : Int32) then ((-2 : Int32), (oc_signs, ln)) else (if sign ≤ (127 : Int32) then (if nI ln < (100 : Int32) then (nI (ln + 1), (upd oc_signs ln (vp_nar .byte ((sign).toInt8.toInt32)), ln + 1)) else ((-4 : Int32), (oc_signs, ln))) else ((-2 : Int32), (oc_signs, ln)))
set_option maxHeartbeats 4000000 in
set_option maxRecDepth 100000 in
theorem c_X2_append (l : Launch) (D : va_G) (cy : Nat → ClassId) (oc : Nat → Nat) (oc_signs : Nat → Int32) (oc_letters : Nat → Int32) (oc_numbers : Nat → Int32) (oc_clauses : Int32) (oc_at : Int32) (sign : Int32) (ln : Nat) (hln : ln ≤ 100) : RwI (S := (Nat → Int32) × Nat) l D cy yX2_append (.code yX2_append cX2_append 2 (some .int)) 0 (wX2 cy oc oc_signs oc_letters oc_numbers (nI ln) oc_clauses oc_at) [.ref (oc 0), .int sign] (fun rr u => (rr, u) = f_X2_append oc_signs sign ln) (fun u => wX2 cy oc u.1 oc_letters oc_numbers (nI u.2) oc_clauses oc_at) := by
  intro sz
  refine Met.ofW (cc := cX2_append) (maxL := 2) (ret := (some .int)) (by decide) rfl ?_
  intro pP eE s0 mM args below meth cC s₁ B hml hv
  obtain ⟨rfl, hsz, hP, hKX, hD0⟩ := hv
  have hx := B.exec
  have hb := B.bytes
  have hr := B.returns
  have hG := gw_hts (atoms_spec (ws := _) B.pre)
  have hown : s0.vm.findClass RX2 = some mM.cls := findClass_of_methodNamed B.named
  have hlocks := B.notSynchronized
  subst hsz
  have hD := hD0.self (sz := s0.heap.size)
  generalize hAe : va_A (wX2 cy oc oc_signs oc_letters oc_numbers (nI ln) oc_clauses oc_at) s0.heap.size = A at hD ⊢
  have hA : ∀ q : Nat, s0.heap.size ≤ q → A q := fun q h => by rw [← hAe]; exact Or.inr h
  have hS : va_S A s0.heap s0.heap [] := va_S.rf
  have hl := lv_entry ([.ref (oc 0), .int sign]) (n := 2) (Nat.le_of_ble_eq_true rfl)
  rw [lg_entry_eq]
  generalize (lg_sl ([.ref (oc 0), .int sign]) ++ List.replicate (2 - (lg_sl ([.ref (oc 0), .int sign])).length) Slot.unset).toArray = ls at hl ⊢
  have hl : lv_has ls 2 [(0, .ref (oc 0)), (1, .int sign)] := hl
  refine lv_iload_n hx hb dX2_append_0 rfl (lv_at hl 1 rfl) ?_
  refine lv_if_lt (tgt := 10) hx hb dX2_append_1 (by decide) (fun c1 => ?_) (fun c1 => ?_)
  · refine lv_bipush (v := (-2 : Int32)) hx hb dX2_append_10 (by decide) ?_
    exact W.iret (v := (-2 : Int32)) hx hb hr (fun t ht hW => ⟨⟨(-2 : Int32), (oc_signs, ln), rfl, by unfold f_X2_append; rw [if_pos c1] <;> rfl, by rw [ht]; exact hP, hD⟩, hS.F ht⟩) hS.2.2 dX2_append_12
  · refine lv_iload_n hx hb dX2_append_4 rfl (lv_at hl 1 rfl) ?_
    refine lv_bipush (v := (127 : Int32)) hx hb dX2_append_5 (by decide) ?_
    refine lv_icmp_le (tgt := 13) hx hb dX2_append_7 (by decide) (fun c2 => ?_) (fun c2 => ?_)
    · refine lv_aload_n hx hb dX2_append_13 rfl (lv_at hl 0 rfl) ?_
      refine gf_X2_22 hx hb hG hown hKX hP 0 rfl rfl dX2_append_14 ?_
      refine lv_bipush (v := (100 : Int32)) hx hb dX2_append_17 (by decide) ?_
      refine lv_icmp_lt (tgt := 25) hx hb dX2_append_19 (by decide) (fun c3 => ?_) (fun c3 => ?_)
      · have hl1 : ln < 100 := (nI_ltI (a := ln) (b := 100) (by omega) (by omega)).mp c3
        refine lv_aload_n hx hb dX2_append_25 rfl (lv_at hl 0 rfl) ?_
        refine gf_X2_9 hx hb hG hown hKX hP 0 rfl rfl dX2_append_26 ?_
        refine lv_aload_n hx hb dX2_append_29 rfl (lv_at hl 0 rfl) ?_
        refine gf_X2_22 hx hb hG hown hKX hP 0 rfl rfl dX2_append_30 ?_
        refine lv_iload_n hx hb dX2_append_33 rfl (lv_at hl 1 rfl) ?_
        refine lv_i2b (v := ((sign).toInt8.toInt32)) hx hb dX2_append_34 rfl ?_
        refine bast_n hx hb hKX hP hD hS 1 rfl rfl (by omega) (by decide) dX2_append_35 (fun H locs hP hD hS => ?_)
        have hP : va_P D vwCl (wX2 cy oc (upd oc_signs ln (vp_nar .byte ((sign).toInt8.toInt32))) oc_letters oc_numbers (nI ln) oc_clauses oc_at) H := hP
        have hD : va_D A (wX2 cy oc (upd oc_signs ln (vp_nar .byte ((sign).toInt8.toInt32))) oc_letters oc_numbers (nI ln) oc_clauses oc_at) := hD
        refine lv_aload_n hx hb dX2_append_36 rfl (lv_at hl 0 rfl) ?_
        refine lv_dup hx hb dX2_append_37 rfl ?_
        refine gf_X2_22 hx hb hG hown hKX hP 0 rfl rfl dX2_append_38 ?_
        refine lv_iconst (v := (1 : Int32)) hx hb dX2_append_41 (by decide) ?_
        refine lv_iadd hx hb dX2_append_42 ?_
        refine topi_eq (y := nI (ln + 1)) (aN rfl rfl) ?_
        refine pf_X2_22 hx hb hG hown hKX hP hD hS 0 rfl rfl rfl (Nat.le_of_ble_eq_true rfl) dX2_append_43 (wn := wX2 cy oc (upd oc_signs ln (vp_nar .byte ((sign).toInt8.toInt32))) oc_letters oc_numbers (nI (ln + 1)) oc_clauses oc_at) rfl (fun H locs hP hD hS => ?_)
        refine lv_aload_n hx hb dX2_append_46 rfl (lv_at hl 0 rfl) ?_
        refine gf_X2_22 hx hb hG hown hKX hP 0 rfl rfl dX2_append_47 ?_
        exact W.iret (v := nI (ln + 1)) hx hb hr (fun t ht hW => ⟨⟨nI (ln + 1), (upd oc_signs ln (vp_nar .byte ((sign).toInt8.toInt32)), ln + 1), rfl, by unfold f_X2_append; rw [if_neg c1, if_pos c2, if_pos c3] <;> rfl, by rw [ht]; exact hP, hD⟩, hS.F ht⟩) hS.2.2 dX2_append_50
      · refine lv_bipush (v := (-4 : Int32)) hx hb dX2_append_22 (by decide) ?_
        exact W.iret (v := (-4 : Int32)) hx hb hr (fun t ht hW => ⟨⟨(-4 : Int32), (oc_signs, ln), rfl, by unfold f_X2_append; rw [if_neg c1, if_pos c2, if_neg c3] <;> rfl, by rw [ht]; exact hP, hD⟩, hS.F ht⟩) hS.2.2 dX2_append_24
    · refine lv_bipush (v := (-2 : Int32)) hx hb dX2_append_10 (by decide) ?_
      exact W.iret (v := (-2 : Int32)) hx hb hr (fun t ht hW => ⟨⟨(-2 : Int32), (oc_signs, ln), rfl, by unfold f_X2_append; rw [if_neg c1, if_neg c2] <;> rfl, by rw [ht]; exact hP, hD⟩, hS.F ht⟩) hS.2.2 dX2_append_12
def f_X2_clear : Nat :=
  0
set_option maxHeartbeats 4000000 in
set_option maxRecDepth 100000 in
theorem c_X2_clear (l : Launch) (D : va_G) (cy : Nat → ClassId) (oc : Nat → Nat) (oc_signs : Nat → Int32) (oc_letters : Nat → Int32) (oc_numbers : Nat → Int32) (oc_length : Int32) (oc_clauses : Int32) (oc_at : Int32) : RwV (S := Nat) l D cy yX2_clear (.code yX2_clear cX2_clear 1 none) 0 (wX2 cy oc oc_signs oc_letters oc_numbers oc_length oc_clauses oc_at) [.ref (oc 0)] (fun u => u = f_X2_clear) (fun u => wX2 cy oc oc_signs oc_letters oc_numbers (nI u) oc_clauses oc_at) := by
  intro sz
  refine Met.ofW (cc := cX2_clear) (maxL := 1) (ret := none) (by decide) rfl ?_
  intro pP eE s0 mM args below meth cC s₁ B hml hv
  obtain ⟨rfl, hsz, hP, hKX, hD0⟩ := hv
  have hx := B.exec
  have hb := B.bytes
  have hr := B.returns
  have hG := gw_hts (atoms_spec (ws := _) B.pre)
  have hown : s0.vm.findClass RX2 = some mM.cls := findClass_of_methodNamed B.named
  have hlocks := B.notSynchronized
  subst hsz
  have hD := hD0.self (sz := s0.heap.size)
  generalize hAe : va_A (wX2 cy oc oc_signs oc_letters oc_numbers oc_length oc_clauses oc_at) s0.heap.size = A at hD ⊢
  have hA : ∀ q : Nat, s0.heap.size ≤ q → A q := fun q h => by rw [← hAe]; exact Or.inr h
  have hS : va_S A s0.heap s0.heap [] := va_S.rf
  have hl := lv_entry ([.ref (oc 0)]) (n := 1) (Nat.le_of_ble_eq_true rfl)
  rw [lg_entry_eq]
  generalize (lg_sl ([.ref (oc 0)]) ++ List.replicate (1 - (lg_sl ([.ref (oc 0)])).length) Slot.unset).toArray = ls at hl ⊢
  have hl : lv_has ls 1 [(0, .ref (oc 0))] := hl
  refine lv_aload_n hx hb dX2_clear_0 rfl (lv_at hl 0 rfl) ?_
  refine lv_iconst (v := (0 : Int32)) hx hb dX2_clear_1 (by decide) ?_
  refine pf_X2_22 hx hb hG hown hKX hP hD hS 0 rfl rfl rfl (Nat.le_of_ble_eq_true rfl) dX2_clear_2 (wn := wX2 cy oc oc_signs oc_letters oc_numbers (0 : Int32) oc_clauses oc_at) rfl (fun H locs hP hD hS => ?_)
  exact W.vret hx hb hr (fun t ht hW => ⟨⟨0, rfl, by unfold f_X2_clear; rfl, by rw [ht]; exact hP, hD⟩, hS.F ht⟩) hS.2.2 dX2_clear_5
def f_X2_takeSign (oc_signs : Nat → Int32) (sign : Int32) (ln : Nat) (pt : Nat) : Int32 × Nat :=
  if nI ln ≤ nI pt then ((0 : Int32), pt) else (if (oc_signs pt) = sign then ((1 : Int32), pt + 1) else ((0 : Int32), pt))
set_option maxHeartbeats 4000000 in
set_option maxRecDepth 100000 in
theorem c_X2_takeSign (l : Launch) (D : va_G) (cy : Nat → ClassId) (oc : Nat → Nat) (oc_signs : Nat → Int32) (oc_letters : Nat → Int32) (oc_numbers : Nat → Int32) (oc_clauses : Int32) (sign : Int32) (ln : Nat) (pt : Nat) (hln : ln ≤ 100) (hpt : pt ≤ ln) : RwI (S := Nat) l D cy yX2_takeSign (.code yX2_takeSign cX2_takeSign 2 (some .boolean)) 0 (wX2 cy oc oc_signs oc_letters oc_numbers (nI ln) oc_clauses (nI pt)) [.ref (oc 0), .int sign] (fun rr u => (rr, u) = f_X2_takeSign oc_signs sign ln pt) (fun u => wX2 cy oc oc_signs oc_letters oc_numbers (nI ln) oc_clauses (nI u)) := by
  intro sz
  refine Met.ofW (cc := cX2_takeSign) (maxL := 2) (ret := (some .boolean)) (by decide) rfl ?_
  intro pP eE s0 mM args below meth cC s₁ B hml hv
  obtain ⟨rfl, hsz, hP, hKX, hD0⟩ := hv
  have hx := B.exec
  have hb := B.bytes
  have hr := B.returns
  have hG := gw_hts (atoms_spec (ws := _) B.pre)
  have hown : s0.vm.findClass RX2 = some mM.cls := findClass_of_methodNamed B.named
  have hlocks := B.notSynchronized
  subst hsz
  have hD := hD0.self (sz := s0.heap.size)
  generalize hAe : va_A (wX2 cy oc oc_signs oc_letters oc_numbers (nI ln) oc_clauses (nI pt)) s0.heap.size = A at hD ⊢
  have hA : ∀ q : Nat, s0.heap.size ≤ q → A q := fun q h => by rw [← hAe]; exact Or.inr h
  have hS : va_S A s0.heap s0.heap [] := va_S.rf
  have hl := lv_entry ([.ref (oc 0), .int sign]) (n := 2) (Nat.le_of_ble_eq_true rfl)
  rw [lg_entry_eq]
  generalize (lg_sl ([.ref (oc 0), .int sign]) ++ List.replicate (2 - (lg_sl ([.ref (oc 0), .int sign])).length) Slot.unset).toArray = ls at hl ⊢
  have hl : lv_has ls 2 [(0, .ref (oc 0)), (1, .int sign)] := hl
  refine lv_aload_n hx hb dX2_takeSign_0 rfl (lv_at hl 0 rfl) ?_
  refine gf_X2_26 hx hb hG hown hKX hP 0 rfl rfl dX2_takeSign_1 ?_
  refine lv_aload_n hx hb dX2_takeSign_4 rfl (lv_at hl 0 rfl) ?_
  refine gf_X2_22 hx hb hG hown hKX hP 0 rfl rfl dX2_takeSign_5 ?_
  refine lv_icmp_ge (tgt := 36) hx hb dX2_takeSign_8 (by decide) (fun c1 => ?_) (fun c1 => ?_)
  · refine lv_iconst (v := (0 : Int32)) hx hb dX2_takeSign_36 (by decide) ?_
    exact W.zret (v := (0 : Int32)) hx hb hr rfl (fun t ht hW => ⟨⟨(0 : Int32), pt, rfl, by unfold f_X2_takeSign; rw [if_pos c1] <;> rfl, by rw [ht]; exact hP, hD⟩, hS.F ht⟩) hS.2.2 dX2_takeSign_37
  · have hat2 : pt < ln := Nat.lt_of_not_le (fun qq_ => c1 ((nI_leI (a := ln) (b := pt) (by omega) (by omega)).mpr qq_))
    refine lv_aload_n hx hb dX2_takeSign_11 rfl (lv_at hl 0 rfl) ?_
    refine gf_X2_9 hx hb hG hown hKX hP 0 rfl rfl dX2_takeSign_12 ?_
    refine lv_aload_n hx hb dX2_takeSign_15 rfl (lv_at hl 0 rfl) ?_
    refine gf_X2_26 hx hb hG hown hKX hP 0 rfl rfl dX2_takeSign_16 ?_
    refine bald_n hx hb hKX hP 1 rfl rfl (by omega) (by decide) dX2_takeSign_19 ?_
    refine lv_iload_n hx hb dX2_takeSign_20 rfl (lv_at hl 1 rfl) ?_
    refine lv_icmp_ne (tgt := 36) hx hb dX2_takeSign_21 (by decide) (fun c3 => ?_) (fun c3 => ?_)
    · refine lv_iconst (v := (0 : Int32)) hx hb dX2_takeSign_36 (by decide) ?_
      exact W.zret (v := (0 : Int32)) hx hb hr rfl (fun t ht hW => ⟨⟨(0 : Int32), pt, rfl, by unfold f_X2_takeSign; rw [if_neg c1, if_neg c3] <;> rfl, by rw [ht]; exact hP, hD⟩, hS.F ht⟩) hS.2.2 dX2_takeSign_37
    · refine lv_aload_n hx hb dX2_takeSign_24 rfl (lv_at hl 0 rfl) ?_
      refine lv_dup hx hb dX2_takeSign_25 rfl ?_
      refine gf_X2_26 hx hb hG hown hKX hP 0 rfl rfl dX2_takeSign_26 ?_
      refine lv_iconst (v := (1 : Int32)) hx hb dX2_takeSign_29 (by decide) ?_
      refine lv_iadd hx hb dX2_takeSign_30 ?_
      refine topi_eq (y := nI (pt + 1)) (aN rfl rfl) ?_
      refine pf_X2_26 hx hb hG hown hKX hP hD hS 0 rfl rfl rfl (Nat.le_of_ble_eq_true rfl) dX2_takeSign_31 (wn := wX2 cy oc oc_signs oc_letters oc_numbers (nI ln) oc_clauses (nI (pt + 1))) rfl (fun H locs hP hD hS => ?_)
      refine lv_iconst (v := (1 : Int32)) hx hb dX2_takeSign_34 (by decide) ?_
      exact W.zret (v := (1 : Int32)) hx hb hr rfl (fun t ht hW => ⟨⟨(1 : Int32), pt + 1, rfl, by unfold f_X2_takeSign; rw [if_neg c1, if_pos c3] <;> rfl, by rw [ht]; exact hP, hD⟩, hS.F ht⟩) hS.2.2 dX2_takeSign_35
theorem takeSign_l {f : Nat → Int32} {x : Int32} {ln pt : Nat} (h : pt ≤ ln) (hl : ln ≤ 100) : (f_X2_takeSign f x ln pt).2 ≤ ln := by
  unfold f_X2_takeSign
  repeat' refine iteP (P := fun x : Int32 × Nat => x.2 ≤ ln) (fun _ => ?_) (fun _ => ?_)
  all_goals first | exact h | (simp only [nI_leI (show ln < 2 ^ 31 by omega) (show pt < 2 ^ 31 by omega)] at *; omega)
theorem takeSign_le {f : Nat → Int32} {x : Int32} {ln pt : Nat} {r : Int32} {u : Nat} (hw : (r, u) = f_X2_takeSign f x ln pt) (h : pt ≤ ln) (hl : ln ≤ 100) : u ≤ ln := by
  rw [show u = (f_X2_takeSign f x ln pt).2 from congrArg Prod.snd hw]
  exact takeSign_l h hl
def f_X2_takeNumberd1 (oc_signs : Nat → Int32) (oc_numbers : Nat → Int32) (ln : Nat) (pt : Nat) (sl : Nat) : Int32 × (Nat → Int32) × Nat :=
  if nI ln ≤ nI pt then ((0 : Int32), (oc_numbers, pt)) else (if (oc_signs pt) < (48 : Int32) then ((0 : Int32), (oc_numbers, pt)) else (if (57 : Int32) < (oc_signs pt) then ((0 : Int32), (oc_numbers, pt)) else (if nI sl < (0 : Int32) then ((0 : Int32), (oc_numbers, pt + 1)) else (if nI sl < (36 : Int32) then ((1 : Int32), (upd oc_numbers sl ((0 : Int32) + ((oc_signs pt) - (48 : Int32))), pt + 1)) else ((0 : Int32), (oc_numbers, pt + 1))))))
set_option maxHeartbeats 4000000 in
set_option maxRecDepth 100000 in
theorem c_X2_takeNumberd1 (l : Launch) (D : va_G) (cy : Nat → ClassId) (oc : Nat → Nat) (oc_signs : Nat → Int32) (oc_letters : Nat → Int32) (oc_numbers : Nat → Int32) (oc_clauses : Int32) (ln : Nat) (pt : Nat) (sl : Nat) (hln : ln ≤ 100) (hpt : pt ≤ ln) (hsl : sl < 36) : RwI (S := (Nat → Int32) × Nat) l D cy yX2_takeNumber (.code yX2_takeNumber cX2_takeNumber 6 (some .boolean)) 0 (wX2 cy oc oc_signs oc_letters oc_numbers (nI ln) oc_clauses (nI pt)) [.ref (oc 0), .int (nI sl), .int (1 : Int32)] (fun rr u => (rr, u) = f_X2_takeNumberd1 oc_signs oc_numbers ln pt sl) (fun u => wX2 cy oc oc_signs oc_letters u.1 (nI ln) oc_clauses (nI u.2)) := by
  intro sz
  refine Met.ofW (cc := cX2_takeNumber) (maxL := 6) (ret := (some .boolean)) (by decide) rfl ?_
  intro pP eE s0 mM args below meth cC s₁ B hml hv
  obtain ⟨rfl, hsz, hP, hKX, hD0⟩ := hv
  have hx := B.exec
  have hb := B.bytes
  have hr := B.returns
  have hG := gw_hts (atoms_spec (ws := _) B.pre)
  have hown : s0.vm.findClass RX2 = some mM.cls := findClass_of_methodNamed B.named
  have hlocks := B.notSynchronized
  subst hsz
  have hD := hD0.self (sz := s0.heap.size)
  generalize hAe : va_A (wX2 cy oc oc_signs oc_letters oc_numbers (nI ln) oc_clauses (nI pt)) s0.heap.size = A at hD ⊢
  have hA : ∀ q : Nat, s0.heap.size ≤ q → A q := fun q h => by rw [← hAe]; exact Or.inr h
  have hS : va_S A s0.heap s0.heap [] := va_S.rf
  have hl := lv_entry ([.ref (oc 0), .int (nI sl), .int (1 : Int32)]) (n := 6) (Nat.le_of_ble_eq_true rfl)
  rw [lg_entry_eq]
  generalize (lg_sl ([.ref (oc 0), .int (nI sl), .int (1 : Int32)]) ++ List.replicate (6 - (lg_sl ([.ref (oc 0), .int (nI sl), .int (1 : Int32)])).length) Slot.unset).toArray = ls at hl ⊢
  have hl : lv_has ls 6 [(0, .ref (oc 0)), (1, .int (nI sl)), (2, .int (1 : Int32))] := hl
  refine lv_iconst (v := (0 : Int32)) hx hb dX2_takeNumber_0 (by decide) ?_
  refine lv_istore_n (lv' := [(3, .int (0 : Int32)), (0, .ref (oc 0)), (1, .int (nI sl)), (2, .int (1 : Int32))]) hx hb dX2_takeNumber_1 rfl hl (by decide) rfl (fun ls hl => ?_)
  refine lv_iconst (v := (0 : Int32)) hx hb dX2_takeNumber_2 (by decide) ?_
  refine lv_istore (lv' := [(4, .int (0 : Int32)), (3, .int (0 : Int32)), (0, .ref (oc 0)), (1, .int (nI sl)), (2, .int (1 : Int32))]) hx hb dX2_takeNumber_3 hl (by decide) rfl (fun ls hl => ?_)
  refine lv_iconst (v := (0 : Int32)) hx hb dX2_takeNumber_5 (by decide) ?_
  refine lv_istore (lv' := [(5, .int (0 : Int32)), (4, .int (0 : Int32)), (3, .int (0 : Int32)), (0, .ref (oc 0)), (1, .int (nI sl)), (2, .int (1 : Int32))]) hx hb dX2_takeNumber_6 hl (by decide) rfl (fun ls hl => ?_)
  refine lv_iload hx hb dX2_takeNumber_8 (lv_at hl 0 rfl) ?_
  refine lv_iload_n hx hb dX2_takeNumber_10 rfl (lv_at hl 5 rfl) ?_
  refine lv_icmp_ge (tgt := 90) hx hb dX2_takeNumber_11 (by decide) (fun c1 => absurd c1 (by decide)) (fun c1 => ?_)
  refine lv_aload_n hx hb dX2_takeNumber_14 rfl (lv_at hl 3 rfl) ?_
  refine gf_X2_26 hx hb hG hown hKX hP 0 rfl rfl dX2_takeNumber_15 ?_
  refine lv_aload_n hx hb dX2_takeNumber_18 rfl (lv_at hl 3 rfl) ?_
  refine gf_X2_22 hx hb hG hown hKX hP 0 rfl rfl dX2_takeNumber_19 ?_
  refine lv_icmp_ge (tgt := 90) hx hb dX2_takeNumber_22 (by decide) (fun c2 => ?_) (fun c2 => ?_)
  · refine lv_iload hx hb dX2_takeNumber_90 (lv_at hl 1 rfl) ?_
    refine lv_if_eq (tgt := 108) hx hb dX2_takeNumber_92 (by decide) (fun c3 => ?_) (fun c3 => absurd (by decide) c3)
    refine lv_iconst (v := (0 : Int32)) hx hb dX2_takeNumber_108 (by decide) ?_
    exact W.zret (v := (0 : Int32)) hx hb hr rfl (fun t ht hW => ⟨⟨(0 : Int32), (oc_numbers, pt), rfl, by unfold f_X2_takeNumberd1; rw [if_pos c2] <;> rfl, by rw [ht]; exact hP, hD⟩, hS.F ht⟩) hS.2.2 dX2_takeNumber_109
  · have hat4 : pt < ln := Nat.lt_of_not_le (fun qq_ => c2 ((nI_leI (a := ln) (b := pt) (by omega) (by omega)).mpr qq_))
    refine lv_aload_n hx hb dX2_takeNumber_25 rfl (lv_at hl 3 rfl) ?_
    refine gf_X2_9 hx hb hG hown hKX hP 0 rfl rfl dX2_takeNumber_26 ?_
    refine lv_aload_n hx hb dX2_takeNumber_29 rfl (lv_at hl 3 rfl) ?_
    refine gf_X2_26 hx hb hG hown hKX hP 0 rfl rfl dX2_takeNumber_30 ?_
    refine bald_n hx hb hKX hP 1 rfl rfl (by omega) (by decide) dX2_takeNumber_33 ?_
    refine lv_bipush (v := (48 : Int32)) hx hb dX2_takeNumber_34 (by decide) ?_
    refine lv_icmp_lt (tgt := 90) hx hb dX2_takeNumber_36 (by decide) (fun c5 => ?_) (fun c5 => ?_)
    · refine lv_iload hx hb dX2_takeNumber_90 (lv_at hl 1 rfl) ?_
      refine lv_if_eq (tgt := 108) hx hb dX2_takeNumber_92 (by decide) (fun c6 => ?_) (fun c6 => absurd (by decide) c6)
      refine lv_iconst (v := (0 : Int32)) hx hb dX2_takeNumber_108 (by decide) ?_
      exact W.zret (v := (0 : Int32)) hx hb hr rfl (fun t ht hW => ⟨⟨(0 : Int32), (oc_numbers, pt), rfl, by unfold f_X2_takeNumberd1; rw [if_neg c2, if_pos c5] <;> rfl, by rw [ht]; exact hP, hD⟩, hS.F ht⟩) hS.2.2 dX2_takeNumber_109
    · refine lv_aload_n hx hb dX2_takeNumber_39 rfl (lv_at hl 3 rfl) ?_
      refine gf_X2_9 hx hb hG hown hKX hP 0 rfl rfl dX2_takeNumber_40 ?_
      refine lv_aload_n hx hb dX2_takeNumber_43 rfl (lv_at hl 3 rfl) ?_
      refine gf_X2_26 hx hb hG hown hKX hP 0 rfl rfl dX2_takeNumber_44 ?_
      refine bald_n hx hb hKX hP 1 rfl rfl (by omega) (by decide) dX2_takeNumber_47 ?_
      refine lv_bipush (v := (57 : Int32)) hx hb dX2_takeNumber_48 (by decide) ?_
      refine lv_icmp_gt (tgt := 90) hx hb dX2_takeNumber_50 (by decide) (fun c7 => ?_) (fun c7 => ?_)
      · refine lv_iload hx hb dX2_takeNumber_90 (lv_at hl 1 rfl) ?_
        refine lv_if_eq (tgt := 108) hx hb dX2_takeNumber_92 (by decide) (fun c8 => ?_) (fun c8 => absurd (by decide) c8)
        refine lv_iconst (v := (0 : Int32)) hx hb dX2_takeNumber_108 (by decide) ?_
        exact W.zret (v := (0 : Int32)) hx hb hr rfl (fun t ht hW => ⟨⟨(0 : Int32), (oc_numbers, pt), rfl, by unfold f_X2_takeNumberd1; rw [if_neg c2, if_neg c5, if_pos c7] <;> rfl, by rw [ht]; exact hP, hD⟩, hS.F ht⟩) hS.2.2 dX2_takeNumber_109
      · refine lv_iload_n hx hb dX2_takeNumber_53 rfl (lv_at hl 2 rfl) ?_
        refine lv_bipush (v := (10 : Int32)) hx hb dX2_takeNumber_54 (by decide) ?_
        refine lv_imul hx hb dX2_takeNumber_56 ?_
        refine topi_eq (y := (0 : Int32)) (by decide) ?_
        refine lv_aload_n hx hb dX2_takeNumber_57 rfl (lv_at hl 3 rfl) ?_
        refine gf_X2_9 hx hb hG hown hKX hP 0 rfl rfl dX2_takeNumber_58 ?_
        refine lv_aload_n hx hb dX2_takeNumber_61 rfl (lv_at hl 3 rfl) ?_
        refine gf_X2_26 hx hb hG hown hKX hP 0 rfl rfl dX2_takeNumber_62 ?_
        refine bald_n hx hb hKX hP 1 rfl rfl (by omega) (by decide) dX2_takeNumber_65 ?_
        refine lv_bipush (v := (48 : Int32)) hx hb dX2_takeNumber_66 (by decide) ?_
        refine lv_isub hx hb dX2_takeNumber_68 ?_
        refine lv_iadd hx hb dX2_takeNumber_69 ?_
        refine lv_istore_n (lv' := [(3, .int ((0 : Int32) + ((oc_signs pt) - (48 : Int32)))), (5, .int (0 : Int32)), (4, .int (0 : Int32)), (0, .ref (oc 0)), (1, .int (nI sl)), (2, .int (1 : Int32))]) hx hb dX2_takeNumber_70 rfl hl (by decide) rfl (fun ls hl => ?_)
        refine lv_aload_n hx hb dX2_takeNumber_71 rfl (lv_at hl 3 rfl) ?_
        refine lv_dup hx hb dX2_takeNumber_72 rfl ?_
        refine gf_X2_26 hx hb hG hown hKX hP 0 rfl rfl dX2_takeNumber_73 ?_
        refine lv_iconst (v := (1 : Int32)) hx hb dX2_takeNumber_76 (by decide) ?_
        refine lv_iadd hx hb dX2_takeNumber_77 ?_
        refine topi_eq (y := nI (pt + 1)) (aN rfl rfl) ?_
        refine pf_X2_26 hx hb hG hown hKX hP hD hS 0 rfl rfl rfl (Nat.le_of_ble_eq_true rfl) dX2_takeNumber_78 (wn := wX2 cy oc oc_signs oc_letters oc_numbers (nI ln) oc_clauses (nI (pt + 1))) rfl (fun H locs hP hD hS => ?_)
        refine lv_iinc (v := (1 : Int32)) (lv' := [(4, .int (1 : Int32)), (3, .int ((0 : Int32) + ((oc_signs pt) - (48 : Int32)))), (5, .int (0 : Int32)), (0, .ref (oc 0)), (1, .int (nI sl)), (2, .int (1 : Int32))]) hx hb dX2_takeNumber_81 hl (k := 2) rfl (by decide) (by decide) rfl (fun ls hl => ?_)
        refine lv_iinc (v := (1 : Int32)) (lv' := [(5, .int (1 : Int32)), (4, .int (1 : Int32)), (3, .int ((0 : Int32) + ((oc_signs pt) - (48 : Int32)))), (0, .ref (oc 0)), (1, .int (nI sl)), (2, .int (1 : Int32))]) hx hb dX2_takeNumber_84 hl (k := 2) rfl (by decide) (by decide) rfl (fun ls hl => ?_)
        refine lv_goto (tgt := 8) hx hb dX2_takeNumber_87 (by decide) ?_
        refine lv_iload hx hb dX2_takeNumber_8 (lv_at hl 0 rfl) ?_
        refine lv_iload_n hx hb dX2_takeNumber_10 rfl (lv_at hl 5 rfl) ?_
        refine lv_icmp_ge (tgt := 90) hx hb dX2_takeNumber_11 (by decide) (fun c9 => ?_) (fun c9 => absurd (by decide) c9)
        refine lv_iload hx hb dX2_takeNumber_90 (lv_at hl 1 rfl) ?_
        refine lv_if_eq (tgt := 108) hx hb dX2_takeNumber_92 (by decide) (fun c10 => absurd c10 (by decide)) (fun c10 => ?_)
        refine lv_iload_n hx hb dX2_takeNumber_95 rfl (lv_at hl 4 rfl) ?_
        refine lv_if_lt (tgt := 108) hx hb dX2_takeNumber_96 (by decide) (fun c11 => ?_) (fun c11 => ?_)
        · refine lv_iconst (v := (0 : Int32)) hx hb dX2_takeNumber_108 (by decide) ?_
          exact W.zret (v := (0 : Int32)) hx hb hr rfl (fun t ht hW => ⟨⟨(0 : Int32), (oc_numbers, pt + 1), rfl, by unfold f_X2_takeNumberd1; rw [if_neg c2, if_neg c5, if_neg c7, if_pos c11] <;> rfl, by rw [ht]; exact hP, hD⟩, hS.F ht⟩) hS.2.2 dX2_takeNumber_109
        · refine lv_iload_n hx hb dX2_takeNumber_99 rfl (lv_at hl 4 rfl) ?_
          refine lv_aload_n hx hb dX2_takeNumber_100 rfl (lv_at hl 3 rfl) ?_
          refine gf_X2_19 hx hb hG hown hKX hP 0 rfl rfl dX2_takeNumber_101 ?_
          refine va_alen hx hb hKX.1 hP 3 0 rfl rfl (v := (36 : Int32)) rfl dX2_takeNumber_104 ?_
          refine lv_icmp_lt (tgt := 110) hx hb dX2_takeNumber_105 (by decide) (fun c12 => ?_) (fun c12 => ?_)
          · refine lv_aload_n hx hb dX2_takeNumber_110 rfl (lv_at hl 3 rfl) ?_
            refine gf_X2_19 hx hb hG hown hKX hP 0 rfl rfl dX2_takeNumber_111 ?_
            refine lv_iload_n hx hb dX2_takeNumber_114 rfl (lv_at hl 4 rfl) ?_
            refine lv_iload_n hx hb dX2_takeNumber_115 rfl (lv_at hl 2 rfl) ?_
            refine iast_n hx hb hKX hP hD hS 3 rfl rfl (by omega) (by decide) dX2_takeNumber_116 (fun H locs hP hD hS => ?_)
            have hP : va_P D vwCl (wX2 cy oc oc_signs oc_letters (upd oc_numbers sl ((0 : Int32) + ((oc_signs pt) - (48 : Int32)))) (nI ln) oc_clauses (nI (pt + 1))) H := hP
            have hD : va_D A (wX2 cy oc oc_signs oc_letters (upd oc_numbers sl ((0 : Int32) + ((oc_signs pt) - (48 : Int32)))) (nI ln) oc_clauses (nI (pt + 1))) := hD
            refine lv_iconst (v := (1 : Int32)) hx hb dX2_takeNumber_117 (by decide) ?_
            exact W.zret (v := (1 : Int32)) hx hb hr rfl (fun t ht hW => ⟨⟨(1 : Int32), (upd oc_numbers sl ((0 : Int32) + ((oc_signs pt) - (48 : Int32))), pt + 1), rfl, by unfold f_X2_takeNumberd1; rw [if_neg c2, if_neg c5, if_neg c7, if_neg c11, if_pos c12] <;> rfl, by rw [ht]; exact hP, hD⟩, hS.F ht⟩) hS.2.2 dX2_takeNumber_118
          · refine lv_iconst (v := (0 : Int32)) hx hb dX2_takeNumber_108 (by decide) ?_
            exact W.zret (v := (0 : Int32)) hx hb hr rfl (fun t ht hW => ⟨⟨(0 : Int32), (oc_numbers, pt + 1), rfl, by unfold f_X2_takeNumberd1; rw [if_neg c2, if_neg c5, if_neg c7, if_neg c11, if_neg c12] <;> rfl, by rw [ht]; exact hP, hD⟩, hS.F ht⟩) hS.2.2 dX2_takeNumber_109
theorem takeNumberd1_l {f g : Nat → Int32} {ln pt sl : Nat} (h : pt ≤ ln) (hl : ln ≤ 100) : (f_X2_takeNumberd1 f g ln pt sl).2.2 ≤ ln := by
  unfold f_X2_takeNumberd1
  repeat' refine iteP (P := fun x : Int32 × (Nat → Int32) × Nat => x.2.2 ≤ ln) (fun _ => ?_) (fun _ => ?_)
  all_goals first | exact h | (simp only [nI_leI (show ln < 2 ^ 31 by omega) (show pt < 2 ^ 31 by omega), nI_leI (show ln < 2 ^ 31 by omega) (show pt + 1 < 2 ^ 31 by omega), nI_leI (show ln < 2 ^ 31 by omega) (show pt + 1 + 1 < 2 ^ 31 by omega)] at *; omega)
theorem takeNumberd1_le {f g : Nat → Int32} {ln pt sl : Nat} {r : Int32} {u : (Nat → Int32) × Nat} (hw : (r, u) = f_X2_takeNumberd1 f g ln pt sl) (h : pt ≤ ln) (hl : ln ≤ 100) : u.2 ≤ ln := by
  rw [show u = (f_X2_takeNumberd1 f g ln pt sl).2 from congrArg Prod.snd hw]
  exact takeNumberd1_l h hl
def f_X2_takeNumberd2 (oc_signs : Nat → Int32) (oc_numbers : Nat → Int32) (ln : Nat) (pt : Nat) (sl : Nat) : Int32 × (Nat → Int32) × Nat :=
  if nI ln ≤ nI pt then ((0 : Int32), (oc_numbers, pt)) else (if (oc_signs pt) < (48 : Int32) then ((0 : Int32), (oc_numbers, pt)) else (if (57 : Int32) < (oc_signs pt) then ((0 : Int32), (oc_numbers, pt)) else (if nI ln ≤ nI (pt + 1) then (if nI sl < (0 : Int32) then ((0 : Int32), (oc_numbers, pt + 1)) else (if nI sl < (36 : Int32) then ((1 : Int32), (upd oc_numbers sl ((0 : Int32) + ((oc_signs pt) - (48 : Int32))), pt + 1)) else ((0 : Int32), (oc_numbers, pt + 1)))) else (if (oc_signs (pt + 1)) < (48 : Int32) then (if nI sl < (0 : Int32) then ((0 : Int32), (oc_numbers, pt + 1)) else (if nI sl < (36 : Int32) then ((1 : Int32), (upd oc_numbers sl ((0 : Int32) + ((oc_signs pt) - (48 : Int32))), pt + 1)) else ((0 : Int32), (oc_numbers, pt + 1)))) else (if (57 : Int32) < (oc_signs (pt + 1)) then (if nI sl < (0 : Int32) then ((0 : Int32), (oc_numbers, pt + 1)) else (if nI sl < (36 : Int32) then ((1 : Int32), (upd oc_numbers sl ((0 : Int32) + ((oc_signs pt) - (48 : Int32))), pt + 1)) else ((0 : Int32), (oc_numbers, pt + 1)))) else (if nI sl < (0 : Int32) then ((0 : Int32), (oc_numbers, (pt + 1) + 1)) else (if nI sl < (36 : Int32) then ((1 : Int32), (upd oc_numbers sl ((((0 : Int32) + ((oc_signs pt) - (48 : Int32))) * (10 : Int32)) + ((oc_signs (pt + 1)) - (48 : Int32))), (pt + 1) + 1)) else ((0 : Int32), (oc_numbers, (pt + 1) + 1)))))))))
set_option maxHeartbeats 4000000 in
set_option maxRecDepth 100000 in
theorem c_X2_takeNumberd2 (l : Launch) (D : va_G) (cy : Nat → ClassId) (oc : Nat → Nat) (oc_signs : Nat → Int32) (oc_letters : Nat → Int32) (oc_numbers : Nat → Int32) (oc_clauses : Int32) (ln : Nat) (pt : Nat) (sl : Nat) (hln : ln ≤ 100) (hpt : pt ≤ ln) (hsl : sl < 36) : RwI (S := (Nat → Int32) × Nat) l D cy yX2_takeNumber (.code yX2_takeNumber cX2_takeNumber 6 (some .boolean)) 0 (wX2 cy oc oc_signs oc_letters oc_numbers (nI ln) oc_clauses (nI pt)) [.ref (oc 0), .int (nI sl), .int (2 : Int32)] (fun rr u => (rr, u) = f_X2_takeNumberd2 oc_signs oc_numbers ln pt sl) (fun u => wX2 cy oc oc_signs oc_letters u.1 (nI ln) oc_clauses (nI u.2)) := by
  intro sz
  refine Met.ofW (cc := cX2_takeNumber) (maxL := 6) (ret := (some .boolean)) (by decide) rfl ?_
  intro pP eE s0 mM args below meth cC s₁ B hml hv
  obtain ⟨rfl, hsz, hP, hKX, hD0⟩ := hv
  have hx := B.exec
  have hb := B.bytes
  have hr := B.returns
  have hG := gw_hts (atoms_spec (ws := _) B.pre)
  have hown : s0.vm.findClass RX2 = some mM.cls := findClass_of_methodNamed B.named
  have hlocks := B.notSynchronized
  subst hsz
  have hD := hD0.self (sz := s0.heap.size)
  generalize hAe : va_A (wX2 cy oc oc_signs oc_letters oc_numbers (nI ln) oc_clauses (nI pt)) s0.heap.size = A at hD ⊢
  have hA : ∀ q : Nat, s0.heap.size ≤ q → A q := fun q h => by rw [← hAe]; exact Or.inr h
  have hS : va_S A s0.heap s0.heap [] := va_S.rf
  have hl := lv_entry ([.ref (oc 0), .int (nI sl), .int (2 : Int32)]) (n := 6) (Nat.le_of_ble_eq_true rfl)
  rw [lg_entry_eq]
  generalize (lg_sl ([.ref (oc 0), .int (nI sl), .int (2 : Int32)]) ++ List.replicate (6 - (lg_sl ([.ref (oc 0), .int (nI sl), .int (2 : Int32)])).length) Slot.unset).toArray = ls at hl ⊢
  have hl : lv_has ls 6 [(0, .ref (oc 0)), (1, .int (nI sl)), (2, .int (2 : Int32))] := hl
  refine lv_iconst (v := (0 : Int32)) hx hb dX2_takeNumber_0 (by decide) ?_
  refine lv_istore_n (lv' := [(3, .int (0 : Int32)), (0, .ref (oc 0)), (1, .int (nI sl)), (2, .int (2 : Int32))]) hx hb dX2_takeNumber_1 rfl hl (by decide) rfl (fun ls hl => ?_)
  refine lv_iconst (v := (0 : Int32)) hx hb dX2_takeNumber_2 (by decide) ?_
  refine lv_istore (lv' := [(4, .int (0 : Int32)), (3, .int (0 : Int32)), (0, .ref (oc 0)), (1, .int (nI sl)), (2, .int (2 : Int32))]) hx hb dX2_takeNumber_3 hl (by decide) rfl (fun ls hl => ?_)
  refine lv_iconst (v := (0 : Int32)) hx hb dX2_takeNumber_5 (by decide) ?_
  refine lv_istore (lv' := [(5, .int (0 : Int32)), (4, .int (0 : Int32)), (3, .int (0 : Int32)), (0, .ref (oc 0)), (1, .int (nI sl)), (2, .int (2 : Int32))]) hx hb dX2_takeNumber_6 hl (by decide) rfl (fun ls hl => ?_)
  refine lv_iload hx hb dX2_takeNumber_8 (lv_at hl 0 rfl) ?_
  refine lv_iload_n hx hb dX2_takeNumber_10 rfl (lv_at hl 5 rfl) ?_
  refine lv_icmp_ge (tgt := 90) hx hb dX2_takeNumber_11 (by decide) (fun c1 => absurd c1 (by decide)) (fun c1 => ?_)
  refine lv_aload_n hx hb dX2_takeNumber_14 rfl (lv_at hl 3 rfl) ?_
  refine gf_X2_26 hx hb hG hown hKX hP 0 rfl rfl dX2_takeNumber_15 ?_
  refine lv_aload_n hx hb dX2_takeNumber_18 rfl (lv_at hl 3 rfl) ?_
  refine gf_X2_22 hx hb hG hown hKX hP 0 rfl rfl dX2_takeNumber_19 ?_
  refine lv_icmp_ge (tgt := 90) hx hb dX2_takeNumber_22 (by decide) (fun c2 => ?_) (fun c2 => ?_)
  · refine lv_iload hx hb dX2_takeNumber_90 (lv_at hl 1 rfl) ?_
    refine lv_if_eq (tgt := 108) hx hb dX2_takeNumber_92 (by decide) (fun c3 => ?_) (fun c3 => absurd (by decide) c3)
    refine lv_iconst (v := (0 : Int32)) hx hb dX2_takeNumber_108 (by decide) ?_
    exact W.zret (v := (0 : Int32)) hx hb hr rfl (fun t ht hW => ⟨⟨(0 : Int32), (oc_numbers, pt), rfl, by unfold f_X2_takeNumberd2; rw [if_pos c2] <;> rfl, by rw [ht]; exact hP, hD⟩, hS.F ht⟩) hS.2.2 dX2_takeNumber_109
  · have hat4 : pt < ln := Nat.lt_of_not_le (fun qq_ => c2 ((nI_leI (a := ln) (b := pt) (by omega) (by omega)).mpr qq_))
    refine lv_aload_n hx hb dX2_takeNumber_25 rfl (lv_at hl 3 rfl) ?_
    refine gf_X2_9 hx hb hG hown hKX hP 0 rfl rfl dX2_takeNumber_26 ?_
    refine lv_aload_n hx hb dX2_takeNumber_29 rfl (lv_at hl 3 rfl) ?_
    refine gf_X2_26 hx hb hG hown hKX hP 0 rfl rfl dX2_takeNumber_30 ?_
    refine bald_n hx hb hKX hP 1 rfl rfl (by omega) (by decide) dX2_takeNumber_33 ?_
    refine lv_bipush (v := (48 : Int32)) hx hb dX2_takeNumber_34 (by decide) ?_
    refine lv_icmp_lt (tgt := 90) hx hb dX2_takeNumber_36 (by decide) (fun c5 => ?_) (fun c5 => ?_)
    · refine lv_iload hx hb dX2_takeNumber_90 (lv_at hl 1 rfl) ?_
      refine lv_if_eq (tgt := 108) hx hb dX2_takeNumber_92 (by decide) (fun c6 => ?_) (fun c6 => absurd (by decide) c6)
      refine lv_iconst (v := (0 : Int32)) hx hb dX2_takeNumber_108 (by decide) ?_
      exact W.zret (v := (0 : Int32)) hx hb hr rfl (fun t ht hW => ⟨⟨(0 : Int32), (oc_numbers, pt), rfl, by unfold f_X2_takeNumberd2; rw [if_neg c2, if_pos c5] <;> rfl, by rw [ht]; exact hP, hD⟩, hS.F ht⟩) hS.2.2 dX2_takeNumber_109
    · refine lv_aload_n hx hb dX2_takeNumber_39 rfl (lv_at hl 3 rfl) ?_
      refine gf_X2_9 hx hb hG hown hKX hP 0 rfl rfl dX2_takeNumber_40 ?_
      refine lv_aload_n hx hb dX2_takeNumber_43 rfl (lv_at hl 3 rfl) ?_
      refine gf_X2_26 hx hb hG hown hKX hP 0 rfl rfl dX2_takeNumber_44 ?_
      refine bald_n hx hb hKX hP 1 rfl rfl (by omega) (by decide) dX2_takeNumber_47 ?_
      refine lv_bipush (v := (57 : Int32)) hx hb dX2_takeNumber_48 (by decide) ?_
      refine lv_icmp_gt (tgt := 90) hx hb dX2_takeNumber_50 (by decide) (fun c7 => ?_) (fun c7 => ?_)
      · refine lv_iload hx hb dX2_takeNumber_90 (lv_at hl 1 rfl) ?_
        refine lv_if_eq (tgt := 108) hx hb dX2_takeNumber_92 (by decide) (fun c8 => ?_) (fun c8 => absurd (by decide) c8)
        refine lv_iconst (v := (0 : Int32)) hx hb dX2_takeNumber_108 (by decide) ?_
        exact W.zret (v := (0 : Int32)) hx hb hr rfl (fun t ht hW => ⟨⟨(0 : Int32), (oc_numbers, pt), rfl, by unfold f_X2_takeNumberd2; rw [if_neg c2, if_neg c5, if_pos c7] <;> rfl, by rw [ht]; exact hP, hD⟩, hS.F ht⟩) hS.2.2 dX2_takeNumber_109
      · refine lv_iload_n hx hb dX2_takeNumber_53 rfl (lv_at hl 2 rfl) ?_
        refine lv_bipush (v := (10 : Int32)) hx hb dX2_takeNumber_54 (by decide) ?_
        refine lv_imul hx hb dX2_takeNumber_56 ?_
        refine topi_eq (y := (0 : Int32)) (by decide) ?_
        refine lv_aload_n hx hb dX2_takeNumber_57 rfl (lv_at hl 3 rfl) ?_
        refine gf_X2_9 hx hb hG hown hKX hP 0 rfl rfl dX2_takeNumber_58 ?_
        refine lv_aload_n hx hb dX2_takeNumber_61 rfl (lv_at hl 3 rfl) ?_
        refine gf_X2_26 hx hb hG hown hKX hP 0 rfl rfl dX2_takeNumber_62 ?_
        refine bald_n hx hb hKX hP 1 rfl rfl (by omega) (by decide) dX2_takeNumber_65 ?_
        refine lv_bipush (v := (48 : Int32)) hx hb dX2_takeNumber_66 (by decide) ?_
        refine lv_isub hx hb dX2_takeNumber_68 ?_
        refine lv_iadd hx hb dX2_takeNumber_69 ?_
        refine lv_istore_n (lv' := [(3, .int ((0 : Int32) + ((oc_signs pt) - (48 : Int32)))), (5, .int (0 : Int32)), (4, .int (0 : Int32)), (0, .ref (oc 0)), (1, .int (nI sl)), (2, .int (2 : Int32))]) hx hb dX2_takeNumber_70 rfl hl (by decide) rfl (fun ls hl => ?_)
        refine lv_aload_n hx hb dX2_takeNumber_71 rfl (lv_at hl 3 rfl) ?_
        refine lv_dup hx hb dX2_takeNumber_72 rfl ?_
        refine gf_X2_26 hx hb hG hown hKX hP 0 rfl rfl dX2_takeNumber_73 ?_
        refine lv_iconst (v := (1 : Int32)) hx hb dX2_takeNumber_76 (by decide) ?_
        refine lv_iadd hx hb dX2_takeNumber_77 ?_
        refine topi_eq (y := nI (pt + 1)) (aN rfl rfl) ?_
        refine pf_X2_26 hx hb hG hown hKX hP hD hS 0 rfl rfl rfl (Nat.le_of_ble_eq_true rfl) dX2_takeNumber_78 (wn := wX2 cy oc oc_signs oc_letters oc_numbers (nI ln) oc_clauses (nI (pt + 1))) rfl (fun H locs hP hD hS => ?_)
        refine lv_iinc (v := (1 : Int32)) (lv' := [(4, .int (1 : Int32)), (3, .int ((0 : Int32) + ((oc_signs pt) - (48 : Int32)))), (5, .int (0 : Int32)), (0, .ref (oc 0)), (1, .int (nI sl)), (2, .int (2 : Int32))]) hx hb dX2_takeNumber_81 hl (k := 2) rfl (by decide) (by decide) rfl (fun ls hl => ?_)
        refine lv_iinc (v := (1 : Int32)) (lv' := [(5, .int (1 : Int32)), (4, .int (1 : Int32)), (3, .int ((0 : Int32) + ((oc_signs pt) - (48 : Int32)))), (0, .ref (oc 0)), (1, .int (nI sl)), (2, .int (2 : Int32))]) hx hb dX2_takeNumber_84 hl (k := 2) rfl (by decide) (by decide) rfl (fun ls hl => ?_)
        refine lv_goto (tgt := 8) hx hb dX2_takeNumber_87 (by decide) ?_
        refine lv_iload hx hb dX2_takeNumber_8 (lv_at hl 0 rfl) ?_
        refine lv_iload_n hx hb dX2_takeNumber_10 rfl (lv_at hl 5 rfl) ?_
        refine lv_icmp_ge (tgt := 90) hx hb dX2_takeNumber_11 (by decide) (fun c9 => absurd c9 (by decide)) (fun c9 => ?_)
        refine lv_aload_n hx hb dX2_takeNumber_14 rfl (lv_at hl 3 rfl) ?_
        refine gf_X2_26 hx hb hG hown hKX hP 0 rfl rfl dX2_takeNumber_15 ?_
        refine lv_aload_n hx hb dX2_takeNumber_18 rfl (lv_at hl 3 rfl) ?_
        refine gf_X2_22 hx hb hG hown hKX hP 0 rfl rfl dX2_takeNumber_19 ?_
        refine lv_icmp_ge (tgt := 90) hx hb dX2_takeNumber_22 (by decide) (fun c10 => ?_) (fun c10 => ?_)
        · refine lv_iload hx hb dX2_takeNumber_90 (lv_at hl 1 rfl) ?_
          refine lv_if_eq (tgt := 108) hx hb dX2_takeNumber_92 (by decide) (fun c11 => absurd c11 (by decide)) (fun c11 => ?_)
          refine lv_iload_n hx hb dX2_takeNumber_95 rfl (lv_at hl 4 rfl) ?_
          refine lv_if_lt (tgt := 108) hx hb dX2_takeNumber_96 (by decide) (fun c12 => ?_) (fun c12 => ?_)
          · refine lv_iconst (v := (0 : Int32)) hx hb dX2_takeNumber_108 (by decide) ?_
            exact W.zret (v := (0 : Int32)) hx hb hr rfl (fun t ht hW => ⟨⟨(0 : Int32), (oc_numbers, pt + 1), rfl, by unfold f_X2_takeNumberd2; rw [if_neg c2, if_neg c5, if_neg c7, if_pos c10, if_pos c12] <;> rfl, by rw [ht]; exact hP, hD⟩, hS.F ht⟩) hS.2.2 dX2_takeNumber_109
          · refine lv_iload_n hx hb dX2_takeNumber_99 rfl (lv_at hl 4 rfl) ?_
            refine lv_aload_n hx hb dX2_takeNumber_100 rfl (lv_at hl 3 rfl) ?_
            refine gf_X2_19 hx hb hG hown hKX hP 0 rfl rfl dX2_takeNumber_101 ?_
            refine va_alen hx hb hKX.1 hP 3 0 rfl rfl (v := (36 : Int32)) rfl dX2_takeNumber_104 ?_
            refine lv_icmp_lt (tgt := 110) hx hb dX2_takeNumber_105 (by decide) (fun c13 => ?_) (fun c13 => ?_)
            · refine lv_aload_n hx hb dX2_takeNumber_110 rfl (lv_at hl 3 rfl) ?_
              refine gf_X2_19 hx hb hG hown hKX hP 0 rfl rfl dX2_takeNumber_111 ?_
              refine lv_iload_n hx hb dX2_takeNumber_114 rfl (lv_at hl 4 rfl) ?_
              refine lv_iload_n hx hb dX2_takeNumber_115 rfl (lv_at hl 2 rfl) ?_
              refine iast_n hx hb hKX hP hD hS 3 rfl rfl (by omega) (by decide) dX2_takeNumber_116 (fun H locs hP hD hS => ?_)
              have hP : va_P D vwCl (wX2 cy oc oc_signs oc_letters (upd oc_numbers sl ((0 : Int32) + ((oc_signs pt) - (48 : Int32)))) (nI ln) oc_clauses (nI (pt + 1))) H := hP
              have hD : va_D A (wX2 cy oc oc_signs oc_letters (upd oc_numbers sl ((0 : Int32) + ((oc_signs pt) - (48 : Int32)))) (nI ln) oc_clauses (nI (pt + 1))) := hD
              refine lv_iconst (v := (1 : Int32)) hx hb dX2_takeNumber_117 (by decide) ?_
              exact W.zret (v := (1 : Int32)) hx hb hr rfl (fun t ht hW => ⟨⟨(1 : Int32), (upd oc_numbers sl ((0 : Int32) + ((oc_signs pt) - (48 : Int32))), pt + 1), rfl, by unfold f_X2_takeNumberd2; rw [if_neg c2, if_neg c5, if_neg c7, if_pos c10, if_neg c12, if_pos c13] <;> rfl, by rw [ht]; exact hP, hD⟩, hS.F ht⟩) hS.2.2 dX2_takeNumber_118
            · refine lv_iconst (v := (0 : Int32)) hx hb dX2_takeNumber_108 (by decide) ?_
              exact W.zret (v := (0 : Int32)) hx hb hr rfl (fun t ht hW => ⟨⟨(0 : Int32), (oc_numbers, pt + 1), rfl, by unfold f_X2_takeNumberd2; rw [if_neg c2, if_neg c5, if_neg c7, if_pos c10, if_neg c12, if_neg c13] <;> rfl, by rw [ht]; exact hP, hD⟩, hS.F ht⟩) hS.2.2 dX2_takeNumber_109
        · have hat14 : pt + 1 < ln := Nat.lt_of_not_le (fun qq_ => c10 ((nI_leI (a := ln) (b := pt + 1) (by omega) (by omega)).mpr qq_))
          refine lv_aload_n hx hb dX2_takeNumber_25 rfl (lv_at hl 3 rfl) ?_
          refine gf_X2_9 hx hb hG hown hKX hP 0 rfl rfl dX2_takeNumber_26 ?_
          refine lv_aload_n hx hb dX2_takeNumber_29 rfl (lv_at hl 3 rfl) ?_
          refine gf_X2_26 hx hb hG hown hKX hP 0 rfl rfl dX2_takeNumber_30 ?_
          refine bald_n hx hb hKX hP 1 rfl rfl (by omega) (by decide) dX2_takeNumber_33 ?_
          refine lv_bipush (v := (48 : Int32)) hx hb dX2_takeNumber_34 (by decide) ?_
          refine lv_icmp_lt (tgt := 90) hx hb dX2_takeNumber_36 (by decide) (fun c15 => ?_) (fun c15 => ?_)
          · refine lv_iload hx hb dX2_takeNumber_90 (lv_at hl 1 rfl) ?_
            refine lv_if_eq (tgt := 108) hx hb dX2_takeNumber_92 (by decide) (fun c16 => absurd c16 (by decide)) (fun c16 => ?_)
            refine lv_iload_n hx hb dX2_takeNumber_95 rfl (lv_at hl 4 rfl) ?_
            refine lv_if_lt (tgt := 108) hx hb dX2_takeNumber_96 (by decide) (fun c17 => ?_) (fun c17 => ?_)
            · refine lv_iconst (v := (0 : Int32)) hx hb dX2_takeNumber_108 (by decide) ?_
              exact W.zret (v := (0 : Int32)) hx hb hr rfl (fun t ht hW => ⟨⟨(0 : Int32), (oc_numbers, pt + 1), rfl, by unfold f_X2_takeNumberd2; rw [if_neg c2, if_neg c5, if_neg c7, if_neg c10, if_pos c15, if_pos c17] <;> rfl, by rw [ht]; exact hP, hD⟩, hS.F ht⟩) hS.2.2 dX2_takeNumber_109
            · refine lv_iload_n hx hb dX2_takeNumber_99 rfl (lv_at hl 4 rfl) ?_
              refine lv_aload_n hx hb dX2_takeNumber_100 rfl (lv_at hl 3 rfl) ?_
              refine gf_X2_19 hx hb hG hown hKX hP 0 rfl rfl dX2_takeNumber_101 ?_
              refine va_alen hx hb hKX.1 hP 3 0 rfl rfl (v := (36 : Int32)) rfl dX2_takeNumber_104 ?_
              refine lv_icmp_lt (tgt := 110) hx hb dX2_takeNumber_105 (by decide) (fun c18 => ?_) (fun c18 => ?_)
              · refine lv_aload_n hx hb dX2_takeNumber_110 rfl (lv_at hl 3 rfl) ?_
                refine gf_X2_19 hx hb hG hown hKX hP 0 rfl rfl dX2_takeNumber_111 ?_
                refine lv_iload_n hx hb dX2_takeNumber_114 rfl (lv_at hl 4 rfl) ?_
                refine lv_iload_n hx hb dX2_takeNumber_115 rfl (lv_at hl 2 rfl) ?_
                refine iast_n hx hb hKX hP hD hS 3 rfl rfl (by omega) (by decide) dX2_takeNumber_116 (fun H locs hP hD hS => ?_)
                have hP : va_P D vwCl (wX2 cy oc oc_signs oc_letters (upd oc_numbers sl ((0 : Int32) + ((oc_signs pt) - (48 : Int32)))) (nI ln) oc_clauses (nI (pt + 1))) H := hP
                have hD : va_D A (wX2 cy oc oc_signs oc_letters (upd oc_numbers sl ((0 : Int32) + ((oc_signs pt) - (48 : Int32)))) (nI ln) oc_clauses (nI (pt + 1))) := hD
                refine lv_iconst (v := (1 : Int32)) hx hb dX2_takeNumber_117 (by decide) ?_
                exact W.zret (v := (1 : Int32)) hx hb hr rfl (fun t ht hW => ⟨⟨(1 : Int32), (upd oc_numbers sl ((0 : Int32) + ((oc_signs pt) - (48 : Int32))), pt + 1), rfl, by unfold f_X2_takeNumberd2; rw [if_neg c2, if_neg c5, if_neg c7, if_neg c10, if_pos c15, if_neg c17, if_pos c18] <;> rfl, by rw [ht]; exact hP, hD⟩, hS.F ht⟩) hS.2.2 dX2_takeNumber_118
              · refine lv_iconst (v := (0 : Int32)) hx hb dX2_takeNumber_108 (by decide) ?_
                exact W.zret (v := (0 : Int32)) hx hb hr rfl (fun t ht hW => ⟨⟨(0 : Int32), (oc_numbers, pt + 1), rfl, by unfold f_X2_takeNumberd2; rw [if_neg c2, if_neg c5, if_neg c7, if_neg c10, if_pos c15, if_neg c17, if_neg c18] <;> rfl, by rw [ht]; exact hP, hD⟩, hS.F ht⟩) hS.2.2 dX2_takeNumber_109
          · refine lv_aload_n hx hb dX2_takeNumber_39 rfl (lv_at hl 3 rfl) ?_
            refine gf_X2_9 hx hb hG hown hKX hP 0 rfl rfl dX2_takeNumber_40 ?_
            refine lv_aload_n hx hb dX2_takeNumber_43 rfl (lv_at hl 3 rfl) ?_
            refine gf_X2_26 hx hb hG hown hKX hP 0 rfl rfl dX2_takeNumber_44 ?_
            refine bald_n hx hb hKX hP 1 rfl rfl (by omega) (by decide) dX2_takeNumber_47 ?_
            refine lv_bipush (v := (57 : Int32)) hx hb dX2_takeNumber_48 (by decide) ?_
            refine lv_icmp_gt (tgt := 90) hx hb dX2_takeNumber_50 (by decide) (fun c19 => ?_) (fun c19 => ?_)
            · refine lv_iload hx hb dX2_takeNumber_90 (lv_at hl 1 rfl) ?_
              refine lv_if_eq (tgt := 108) hx hb dX2_takeNumber_92 (by decide) (fun c20 => absurd c20 (by decide)) (fun c20 => ?_)
              refine lv_iload_n hx hb dX2_takeNumber_95 rfl (lv_at hl 4 rfl) ?_
              refine lv_if_lt (tgt := 108) hx hb dX2_takeNumber_96 (by decide) (fun c21 => ?_) (fun c21 => ?_)
              · refine lv_iconst (v := (0 : Int32)) hx hb dX2_takeNumber_108 (by decide) ?_
                exact W.zret (v := (0 : Int32)) hx hb hr rfl (fun t ht hW => ⟨⟨(0 : Int32), (oc_numbers, pt + 1), rfl, by unfold f_X2_takeNumberd2; rw [if_neg c2, if_neg c5, if_neg c7, if_neg c10, if_neg c15, if_pos c19, if_pos c21] <;> rfl, by rw [ht]; exact hP, hD⟩, hS.F ht⟩) hS.2.2 dX2_takeNumber_109
              · refine lv_iload_n hx hb dX2_takeNumber_99 rfl (lv_at hl 4 rfl) ?_
                refine lv_aload_n hx hb dX2_takeNumber_100 rfl (lv_at hl 3 rfl) ?_
                refine gf_X2_19 hx hb hG hown hKX hP 0 rfl rfl dX2_takeNumber_101 ?_
                refine va_alen hx hb hKX.1 hP 3 0 rfl rfl (v := (36 : Int32)) rfl dX2_takeNumber_104 ?_
                refine lv_icmp_lt (tgt := 110) hx hb dX2_takeNumber_105 (by decide) (fun c22 => ?_) (fun c22 => ?_)
                · refine lv_aload_n hx hb dX2_takeNumber_110 rfl (lv_at hl 3 rfl) ?_
                  refine gf_X2_19 hx hb hG hown hKX hP 0 rfl rfl dX2_takeNumber_111 ?_
                  refine lv_iload_n hx hb dX2_takeNumber_114 rfl (lv_at hl 4 rfl) ?_
                  refine lv_iload_n hx hb dX2_takeNumber_115 rfl (lv_at hl 2 rfl) ?_
                  refine iast_n hx hb hKX hP hD hS 3 rfl rfl (by omega) (by decide) dX2_takeNumber_116 (fun H locs hP hD hS => ?_)
                  have hP : va_P D vwCl (wX2 cy oc oc_signs oc_letters (upd oc_numbers sl ((0 : Int32) + ((oc_signs pt) - (48 : Int32)))) (nI ln) oc_clauses (nI (pt + 1))) H := hP
                  have hD : va_D A (wX2 cy oc oc_signs oc_letters (upd oc_numbers sl ((0 : Int32) + ((oc_signs pt) - (48 : Int32)))) (nI ln) oc_clauses (nI (pt + 1))) := hD
                  refine lv_iconst (v := (1 : Int32)) hx hb dX2_takeNumber_117 (by decide) ?_
                  exact W.zret (v := (1 : Int32)) hx hb hr rfl (fun t ht hW => ⟨⟨(1 : Int32), (upd oc_numbers sl ((0 : Int32) + ((oc_signs pt) - (48 : Int32))), pt + 1), rfl, by unfold f_X2_takeNumberd2; rw [if_neg c2, if_neg c5, if_neg c7, if_neg c10, if_neg c15, if_pos c19, if_neg c21, if_pos c22] <;> rfl, by rw [ht]; exact hP, hD⟩, hS.F ht⟩) hS.2.2 dX2_takeNumber_118
                · refine lv_iconst (v := (0 : Int32)) hx hb dX2_takeNumber_108 (by decide) ?_
                  exact W.zret (v := (0 : Int32)) hx hb hr rfl (fun t ht hW => ⟨⟨(0 : Int32), (oc_numbers, pt + 1), rfl, by unfold f_X2_takeNumberd2; rw [if_neg c2, if_neg c5, if_neg c7, if_neg c10, if_neg c15, if_pos c19, if_neg c21, if_neg c22] <;> rfl, by rw [ht]; exact hP, hD⟩, hS.F ht⟩) hS.2.2 dX2_takeNumber_109
            · refine lv_iload_n hx hb dX2_takeNumber_53 rfl (lv_at hl 2 rfl) ?_
              refine lv_bipush (v := (10 : Int32)) hx hb dX2_takeNumber_54 (by decide) ?_
              refine lv_imul hx hb dX2_takeNumber_56 ?_
              refine lv_aload_n hx hb dX2_takeNumber_57 rfl (lv_at hl 3 rfl) ?_
              refine gf_X2_9 hx hb hG hown hKX hP 0 rfl rfl dX2_takeNumber_58 ?_
              refine lv_aload_n hx hb dX2_takeNumber_61 rfl (lv_at hl 3 rfl) ?_
              refine gf_X2_26 hx hb hG hown hKX hP 0 rfl rfl dX2_takeNumber_62 ?_
              refine bald_n hx hb hKX hP 1 rfl rfl (by omega) (by decide) dX2_takeNumber_65 ?_
              refine lv_bipush (v := (48 : Int32)) hx hb dX2_takeNumber_66 (by decide) ?_
              refine lv_isub hx hb dX2_takeNumber_68 ?_
              refine lv_iadd hx hb dX2_takeNumber_69 ?_
              refine lv_istore_n (lv' := [(3, .int ((((0 : Int32) + ((oc_signs pt) - (48 : Int32))) * (10 : Int32)) + ((oc_signs (pt + 1)) - (48 : Int32)))), (5, .int (1 : Int32)), (4, .int (1 : Int32)), (0, .ref (oc 0)), (1, .int (nI sl)), (2, .int (2 : Int32))]) hx hb dX2_takeNumber_70 rfl hl (by decide) rfl (fun ls hl => ?_)
              refine lv_aload_n hx hb dX2_takeNumber_71 rfl (lv_at hl 3 rfl) ?_
              refine lv_dup hx hb dX2_takeNumber_72 rfl ?_
              refine gf_X2_26 hx hb hG hown hKX hP 0 rfl rfl dX2_takeNumber_73 ?_
              refine lv_iconst (v := (1 : Int32)) hx hb dX2_takeNumber_76 (by decide) ?_
              refine lv_iadd hx hb dX2_takeNumber_77 ?_
              refine topi_eq (y := nI ((pt + 1) + 1)) (aN rfl rfl) ?_
              refine pf_X2_26 hx hb hG hown hKX hP hD hS 0 rfl rfl rfl (Nat.le_of_ble_eq_true rfl) dX2_takeNumber_78 (wn := wX2 cy oc oc_signs oc_letters oc_numbers (nI ln) oc_clauses (nI ((pt + 1) + 1))) rfl (fun H locs hP hD hS => ?_)
              refine lv_iinc (v := (2 : Int32)) (lv' := [(4, .int (2 : Int32)), (3, .int ((((0 : Int32) + ((oc_signs pt) - (48 : Int32))) * (10 : Int32)) + ((oc_signs (pt + 1)) - (48 : Int32)))), (5, .int (1 : Int32)), (0, .ref (oc 0)), (1, .int (nI sl)), (2, .int (2 : Int32))]) hx hb dX2_takeNumber_81 hl (k := 2) rfl (by decide) (by decide) rfl (fun ls hl => ?_)
              refine lv_iinc (v := (2 : Int32)) (lv' := [(5, .int (2 : Int32)), (4, .int (2 : Int32)), (3, .int ((((0 : Int32) + ((oc_signs pt) - (48 : Int32))) * (10 : Int32)) + ((oc_signs (pt + 1)) - (48 : Int32)))), (0, .ref (oc 0)), (1, .int (nI sl)), (2, .int (2 : Int32))]) hx hb dX2_takeNumber_84 hl (k := 2) rfl (by decide) (by decide) rfl (fun ls hl => ?_)
              refine lv_goto (tgt := 8) hx hb dX2_takeNumber_87 (by decide) ?_
              refine lv_iload hx hb dX2_takeNumber_8 (lv_at hl 0 rfl) ?_
              refine lv_iload_n hx hb dX2_takeNumber_10 rfl (lv_at hl 5 rfl) ?_
              refine lv_icmp_ge (tgt := 90) hx hb dX2_takeNumber_11 (by decide) (fun c23 => ?_) (fun c23 => absurd (by decide) c23)
              refine lv_iload hx hb dX2_takeNumber_90 (lv_at hl 1 rfl) ?_
              refine lv_if_eq (tgt := 108) hx hb dX2_takeNumber_92 (by decide) (fun c24 => absurd c24 (by decide)) (fun c24 => ?_)
              refine lv_iload_n hx hb dX2_takeNumber_95 rfl (lv_at hl 4 rfl) ?_
              refine lv_if_lt (tgt := 108) hx hb dX2_takeNumber_96 (by decide) (fun c25 => ?_) (fun c25 => ?_)
              · refine lv_iconst (v := (0 : Int32)) hx hb dX2_takeNumber_108 (by decide) ?_
                exact W.zret (v := (0 : Int32)) hx hb hr rfl (fun t ht hW => ⟨⟨(0 : Int32), (oc_numbers, (pt + 1) + 1), rfl, by unfold f_X2_takeNumberd2; rw [if_neg c2, if_neg c5, if_neg c7, if_neg c10, if_neg c15, if_neg c19, if_pos c25] <;> rfl, by rw [ht]; exact hP, hD⟩, hS.F ht⟩) hS.2.2 dX2_takeNumber_109
              · refine lv_iload_n hx hb dX2_takeNumber_99 rfl (lv_at hl 4 rfl) ?_
                refine lv_aload_n hx hb dX2_takeNumber_100 rfl (lv_at hl 3 rfl) ?_
                refine gf_X2_19 hx hb hG hown hKX hP 0 rfl rfl dX2_takeNumber_101 ?_
                refine va_alen hx hb hKX.1 hP 3 0 rfl rfl (v := (36 : Int32)) rfl dX2_takeNumber_104 ?_
                refine lv_icmp_lt (tgt := 110) hx hb dX2_takeNumber_105 (by decide) (fun c26 => ?_) (fun c26 => ?_)
                · refine lv_aload_n hx hb dX2_takeNumber_110 rfl (lv_at hl 3 rfl) ?_
                  refine gf_X2_19 hx hb hG hown hKX hP 0 rfl rfl dX2_takeNumber_111 ?_
                  refine lv_iload_n hx hb dX2_takeNumber_114 rfl (lv_at hl 4 rfl) ?_
                  refine lv_iload_n hx hb dX2_takeNumber_115 rfl (lv_at hl 2 rfl) ?_
                  refine iast_n hx hb hKX hP hD hS 3 rfl rfl (by omega) (by decide) dX2_takeNumber_116 (fun H locs hP hD hS => ?_)
                  have hP : va_P D vwCl (wX2 cy oc oc_signs oc_letters (upd oc_numbers sl ((((0 : Int32) + ((oc_signs pt) - (48 : Int32))) * (10 : Int32)) + ((oc_signs (pt + 1)) - (48 : Int32)))) (nI ln) oc_clauses (nI ((pt + 1) + 1))) H := hP
                  have hD : va_D A (wX2 cy oc oc_signs oc_letters (upd oc_numbers sl ((((0 : Int32) + ((oc_signs pt) - (48 : Int32))) * (10 : Int32)) + ((oc_signs (pt + 1)) - (48 : Int32)))) (nI ln) oc_clauses (nI ((pt + 1) + 1))) := hD
                  refine lv_iconst (v := (1 : Int32)) hx hb dX2_takeNumber_117 (by decide) ?_
                  exact W.zret (v := (1 : Int32)) hx hb hr rfl (fun t ht hW => ⟨⟨(1 : Int32), (upd oc_numbers sl ((((0 : Int32) + ((oc_signs pt) - (48 : Int32))) * (10 : Int32)) + ((oc_signs (pt + 1)) - (48 : Int32))), (pt + 1) + 1), rfl, by unfold f_X2_takeNumberd2; rw [if_neg c2, if_neg c5, if_neg c7, if_neg c10, if_neg c15, if_neg c19, if_neg c25, if_pos c26] <;> rfl, by rw [ht]; exact hP, hD⟩, hS.F ht⟩) hS.2.2 dX2_takeNumber_118
                · refine lv_iconst (v := (0 : Int32)) hx hb dX2_takeNumber_108 (by decide) ?_
                  exact W.zret (v := (0 : Int32)) hx hb hr rfl (fun t ht hW => ⟨⟨(0 : Int32), (oc_numbers, (pt + 1) + 1), rfl, by unfold f_X2_takeNumberd2; rw [if_neg c2, if_neg c5, if_neg c7, if_neg c10, if_neg c15, if_neg c19, if_neg c25, if_neg c26] <;> rfl, by rw [ht]; exact hP, hD⟩, hS.F ht⟩) hS.2.2 dX2_takeNumber_109
theorem takeNumberd2_l {f g : Nat → Int32} {ln pt sl : Nat} (h : pt ≤ ln) (hl : ln ≤ 100) : (f_X2_takeNumberd2 f g ln pt sl).2.2 ≤ ln := by
  unfold f_X2_takeNumberd2
  repeat' refine iteP (P := fun x : Int32 × (Nat → Int32) × Nat => x.2.2 ≤ ln) (fun _ => ?_) (fun _ => ?_)
  all_goals first | exact h | (simp only [nI_leI (show ln < 2 ^ 31 by omega) (show pt < 2 ^ 31 by omega), nI_leI (show ln < 2 ^ 31 by omega) (show pt + 1 < 2 ^ 31 by omega), nI_leI (show ln < 2 ^ 31 by omega) (show pt + 1 + 1 < 2 ^ 31 by omega)] at *; omega)
theorem takeNumberd2_le {f g : Nat → Int32} {ln pt sl : Nat} {r : Int32} {u : (Nat → Int32) × Nat} (hw : (r, u) = f_X2_takeNumberd2 f g ln pt sl) (h : pt ≤ ln) (hl : ln ≤ 100) : u.2 ≤ ln := by
  rw [show u = (f_X2_takeNumberd2 f g ln pt sl).2 from congrArg Prod.snd hw]
  exact takeNumberd2_l h hl
def f_X2_takeNumberd3 (oc_signs : Nat → Int32) (oc_numbers : Nat → Int32) (ln : Nat) (pt : Nat) (sl : Nat) : Int32 × (Nat → Int32) × Nat :=
  if nI ln ≤ nI pt then ((0 : Int32), (oc_numbers, pt)) else (if (oc_signs pt) < (48 : Int32) then ((0 : Int32), (oc_numbers, pt)) else (if (57 : Int32) < (oc_signs pt) then ((0 : Int32), (oc_numbers, pt)) else (if nI ln ≤ nI (pt + 1) then (if nI sl < (0 : Int32) then ((0 : Int32), (oc_numbers, pt + 1)) else (if nI sl < (36 : Int32) then ((1 : Int32), (upd oc_numbers sl ((0 : Int32) + ((oc_signs pt) - (48 : Int32))), pt + 1)) else ((0 : Int32), (oc_numbers, pt + 1)))) else (if (oc_signs (pt + 1)) < (48 : Int32) then (if nI sl < (0 : Int32) then ((0 : Int32), (oc_numbers, pt + 1)) else (if nI sl < (36 : Int32) then ((1 : Int32), (upd oc_numbers sl ((0 : Int32) + ((oc_signs pt) - (48 : Int32))), pt + 1)) else ((0 : Int32), (oc_numbers, pt + 1)))) else (if (57 : Int32) < (oc_signs (pt + 1)) then (if nI sl < (0 : Int32) then ((0 : Int32), (oc_numbers, pt + 1)) else (if nI sl < (36 : Int32) then ((1 : Int32), (upd oc_numbers sl ((0 : Int32) + ((oc_signs pt) - (48 : Int32))), pt + 1)) else ((0 : Int32), (oc_numbers, pt + 1)))) else (if nI ln ≤ nI ((pt + 1) + 1) then (if nI sl < (0 : Int32) then ((0 : Int32), (oc_numbers, (pt + 1) + 1)) else (if nI sl < (36 : Int32) then ((1 : Int32), (upd oc_numbers sl ((((0 : Int32) + ((oc_signs pt) - (48 : Int32))) * (10 : Int32)) + ((oc_signs (pt + 1)) - (48 : Int32))), (pt + 1) + 1)) else ((0 : Int32), (oc_numbers, (pt + 1) + 1)))) else (if (oc_signs ((pt + 1) + 1)) < (48 : Int32) then (if nI sl < (0 : Int32) then ((0 : Int32), (oc_numbers, (pt + 1) + 1)) else (if nI sl < (36 : Int32) then ((1 : Int32), (upd oc_numbers sl ((((0 : Int32) + ((oc_signs pt) - (48 : Int32))) * (10 : Int32)) + ((oc_signs (pt + 1)) - (48 : Int32))), (pt + 1) + 1)) else ((0 : Int32), (oc_numbers, (pt + 1) + 1)))) else (if (57 : Int32) < (oc_signs ((pt + 1) + 1)) then (if nI sl < (0 : Int32) then ((0 : Int32), (oc_numbers, (pt + 1) + 1)) else (if nI sl < (36 : Int32) then ((1 : Int32), (upd oc_numbers sl ((((0 : Int32) + ((oc_signs pt) - (48 : Int32))) * (10 : Int32)) + ((oc_signs (pt + 1)) - (48 : Int32))), (pt + 1) + 1)) else ((0 : Int32), (oc_numbers, (pt + 1) + 1)))) else (if nI sl < (0 : Int32) then ((0 : Int32), (oc_numbers, ((pt + 1) + 1) + 1)) else (if nI sl < (36 : Int32) then ((1 : Int32), (upd oc_numbers sl ((((((0 : Int32) + ((oc_signs pt) - (48 : Int32))) * (10 : Int32)) + ((oc_signs (pt + 1)) - (48 : Int32))) * (10 : Int32)) + ((oc_signs ((pt + 1) + 1)) - (48 : Int32))), ((pt + 1) + 1) + 1)) else ((0 : Int32), (oc_numbers, ((pt + 1) + 1) + 1))))))))))))
set_option maxHeartbeats 4000000 in
set_option maxRecDepth 100000 in
theorem c_X2_takeNumberd3 (l : Launch) (D : va_G) (cy : Nat → ClassId) (oc : Nat → Nat) (oc_signs : Nat → Int32) (oc_letters : Nat → Int32) (oc_numbers : Nat → Int32) (oc_clauses : Int32) (ln : Nat) (pt : Nat) (sl : Nat) (hln : ln ≤ 100) (hpt : pt ≤ ln) (hsl : sl < 36) : RwI (S := (Nat → Int32) × Nat) l D cy yX2_takeNumber (.code yX2_takeNumber cX2_takeNumber 6 (some .boolean)) 0 (wX2 cy oc oc_signs oc_letters oc_numbers (nI ln) oc_clauses (nI pt)) [.ref (oc 0), .int (nI sl), .int (3 : Int32)] (fun rr u => (rr, u) = f_X2_takeNumberd3 oc_signs oc_numbers ln pt sl) (fun u => wX2 cy oc oc_signs oc_letters u.1 (nI ln) oc_clauses (nI u.2)) := by
  intro sz
  refine Met.ofW (cc := cX2_takeNumber) (maxL := 6) (ret := (some .boolean)) (by decide) rfl ?_
  intro pP eE s0 mM args below meth cC s₁ B hml hv
  obtain ⟨rfl, hsz, hP, hKX, hD0⟩ := hv
  have hx := B.exec
  have hb := B.bytes
  have hr := B.returns
  have hG := gw_hts (atoms_spec (ws := _) B.pre)
  have hown : s0.vm.findClass RX2 = some mM.cls := findClass_of_methodNamed B.named
  have hlocks := B.notSynchronized
  subst hsz
  have hD := hD0.self (sz := s0.heap.size)
  generalize hAe : va_A (wX2 cy oc oc_signs oc_letters oc_numbers (nI ln) oc_clauses (nI pt)) s0.heap.size = A at hD ⊢
  have hA : ∀ q : Nat, s0.heap.size ≤ q → A q := fun q h => by rw [← hAe]; exact Or.inr h
  have hS : va_S A s0.heap s0.heap [] := va_S.rf
  have hl := lv_entry ([.ref (oc 0), .int (nI sl), .int (3 : Int32)]) (n := 6) (Nat.le_of_ble_eq_true rfl)
  rw [lg_entry_eq]
  generalize (lg_sl ([.ref (oc 0), .int (nI sl), .int (3 : Int32)]) ++ List.replicate (6 - (lg_sl ([.ref (oc 0), .int (nI sl), .int (3 : Int32)])).length) Slot.unset).toArray = ls at hl ⊢
  have hl : lv_has ls 6 [(0, .ref (oc 0)), (1, .int (nI sl)), (2, .int (3 : Int32))] := hl
  refine lv_iconst (v := (0 : Int32)) hx hb dX2_takeNumber_0 (by decide) ?_
  refine lv_istore_n (lv' := [(3, .int (0 : Int32)), (0, .ref (oc 0)), (1, .int (nI sl)), (2, .int (3 : Int32))]) hx hb dX2_takeNumber_1 rfl hl (by decide) rfl (fun ls hl => ?_)
  refine lv_iconst (v := (0 : Int32)) hx hb dX2_takeNumber_2 (by decide) ?_
  refine lv_istore (lv' := [(4, .int (0 : Int32)), (3, .int (0 : Int32)), (0, .ref (oc 0)), (1, .int (nI sl)), (2, .int (3 : Int32))]) hx hb dX2_takeNumber_3 hl (by decide) rfl (fun ls hl => ?_)
  refine lv_iconst (v := (0 : Int32)) hx hb dX2_takeNumber_5 (by decide) ?_
  refine lv_istore (lv' := [(5, .int (0 : Int32)), (4, .int (0 : Int32)), (3, .int (0 : Int32)), (0, .ref (oc 0)), (1, .int (nI sl)), (2, .int (3 : Int32))]) hx hb dX2_takeNumber_6 hl (by decide) rfl (fun ls hl => ?_)
  refine lv_iload hx hb dX2_takeNumber_8 (lv_at hl 0 rfl) ?_
  refine lv_iload_n hx hb dX2_takeNumber_10 rfl (lv_at hl 5 rfl) ?_
  refine lv_icmp_ge (tgt := 90) hx hb dX2_takeNumber_11 (by decide) (fun c1 => absurd c1 (by decide)) (fun c1 => ?_)
  refine lv_aload_n hx hb dX2_takeNumber_14 rfl (lv_at hl 3 rfl) ?_
  refine gf_X2_26 hx hb hG hown hKX hP 0 rfl rfl dX2_takeNumber_15 ?_
  refine lv_aload_n hx hb dX2_takeNumber_18 rfl (lv_at hl 3 rfl) ?_
  refine gf_X2_22 hx hb hG hown hKX hP 0 rfl rfl dX2_takeNumber_19 ?_
  refine lv_icmp_ge (tgt := 90) hx hb dX2_takeNumber_22 (by decide) (fun c2 => ?_) (fun c2 => ?_)
  · refine lv_iload hx hb dX2_takeNumber_90 (lv_at hl 1 rfl) ?_
    refine lv_if_eq (tgt := 108) hx hb dX2_takeNumber_92 (by decide) (fun c3 => ?_) (fun c3 => absurd (by decide) c3)
    refine lv_iconst (v := (0 : Int32)) hx hb dX2_takeNumber_108 (by decide) ?_
    exact W.zret (v := (0 : Int32)) hx hb hr rfl (fun t ht hW => ⟨⟨(0 : Int32), (oc_numbers, pt), rfl, by unfold f_X2_takeNumberd3; rw [if_pos c2] <;> rfl, by rw [ht]; exact hP, hD⟩, hS.F ht⟩) hS.2.2 dX2_takeNumber_109
  · have hat4 : pt < ln := Nat.lt_of_not_le (fun qq_ => c2 ((nI_leI (a := ln) (b := pt) (by omega) (by omega)).mpr qq_))
    refine lv_aload_n hx hb dX2_takeNumber_25 rfl (lv_at hl 3 rfl) ?_
    refine gf_X2_9 hx hb hG hown hKX hP 0 rfl rfl dX2_takeNumber_26 ?_
    refine lv_aload_n hx hb dX2_takeNumber_29 rfl (lv_at hl 3 rfl) ?_
    refine gf_X2_26 hx hb hG hown hKX hP 0 rfl rfl dX2_takeNumber_30 ?_
    refine bald_n hx hb hKX hP 1 rfl rfl (by omega) (by decide) dX2_takeNumber_33 ?_
    refine lv_bipush (v := (48 : Int32)) hx hb dX2_takeNumber_34 (by decide) ?_
    refine lv_icmp_lt (tgt := 90) hx hb dX2_takeNumber_36 (by decide) (fun c5 => ?_) (fun c5 => ?_)
    · refine lv_iload hx hb dX2_takeNumber_90 (lv_at hl 1 rfl) ?_
      refine lv_if_eq (tgt := 108) hx hb dX2_takeNumber_92 (by decide) (fun c6 => ?_) (fun c6 => absurd (by decide) c6)
      refine lv_iconst (v := (0 : Int32)) hx hb dX2_takeNumber_108 (by decide) ?_
      exact W.zret (v := (0 : Int32)) hx hb hr rfl (fun t ht hW => ⟨⟨(0 : Int32), (oc_numbers, pt), rfl, by unfold f_X2_takeNumberd3; rw [if_neg c2, if_pos c5] <;> rfl, by rw [ht]; exact hP, hD⟩, hS.F ht⟩) hS.2.2 dX2_takeNumber_109
    · refine lv_aload_n hx hb dX2_takeNumber_39 rfl (lv_at hl 3 rfl) ?_
      refine gf_X2_9 hx hb hG hown hKX hP 0 rfl rfl dX2_takeNumber_40 ?_
      refine lv_aload_n hx hb dX2_takeNumber_43 rfl (lv_at hl 3 rfl) ?_
      refine gf_X2_26 hx hb hG hown hKX hP 0 rfl rfl dX2_takeNumber_44 ?_
      refine bald_n hx hb hKX hP 1 rfl rfl (by omega) (by decide) dX2_takeNumber_47 ?_
      refine lv_bipush (v := (57 : Int32)) hx hb dX2_takeNumber_48 (by decide) ?_
      refine lv_icmp_gt (tgt := 90) hx hb dX2_takeNumber_50 (by decide) (fun c7 => ?_) (fun c7 => ?_)
      · refine lv_iload hx hb dX2_takeNumber_90 (lv_at hl 1 rfl) ?_
        refine lv_if_eq (tgt := 108) hx hb dX2_takeNumber_92 (by decide) (fun c8 => ?_) (fun c8 => absurd (by decide) c8)
        refine lv_iconst (v := (0 : Int32)) hx hb dX2_takeNumber_108 (by decide) ?_
        exact W.zret (v := (0 : Int32)) hx hb hr rfl (fun t ht hW => ⟨⟨(0 : Int32), (oc_numbers, pt), rfl, by unfold f_X2_takeNumberd3; rw [if_neg c2, if_neg c5, if_pos c7] <;> rfl, by rw [ht]; exact hP, hD⟩, hS.F ht⟩) hS.2.2 dX2_takeNumber_109
      · refine lv_iload_n hx hb dX2_takeNumber_53 rfl (lv_at hl 2 rfl) ?_
        refine lv_bipush (v := (10 : Int32)) hx hb dX2_takeNumber_54 (by decide) ?_
        refine lv_imul hx hb dX2_takeNumber_56 ?_
        refine topi_eq (y := (0 : Int32)) (by decide) ?_
        refine lv_aload_n hx hb dX2_takeNumber_57 rfl (lv_at hl 3 rfl) ?_
        refine gf_X2_9 hx hb hG hown hKX hP 0 rfl rfl dX2_takeNumber_58 ?_
        refine lv_aload_n hx hb dX2_takeNumber_61 rfl (lv_at hl 3 rfl) ?_
        refine gf_X2_26 hx hb hG hown hKX hP 0 rfl rfl dX2_takeNumber_62 ?_
        refine bald_n hx hb hKX hP 1 rfl rfl (by omega) (by decide) dX2_takeNumber_65 ?_
        refine lv_bipush (v := (48 : Int32)) hx hb dX2_takeNumber_66 (by decide) ?_
        refine lv_isub hx hb dX2_takeNumber_68 ?_
        refine lv_iadd hx hb dX2_takeNumber_69 ?_
        refine lv_istore_n (lv' := [(3, .int ((0 : Int32) + ((oc_signs pt) - (48 : Int32)))), (5, .int (0 : Int32)), (4, .int (0 : Int32)), (0, .ref (oc 0)), (1, .int (nI sl)), (2, .int (3 : Int32))]) hx hb dX2_takeNumber_70 rfl hl (by decide) rfl (fun ls hl => ?_)
        refine lv_aload_n hx hb dX2_takeNumber_71 rfl (lv_at hl 3 rfl) ?_
        refine lv_dup hx hb dX2_takeNumber_72 rfl ?_
        refine gf_X2_26 hx hb hG hown hKX hP 0 rfl rfl dX2_takeNumber_73 ?_
        refine lv_iconst (v := (1 : Int32)) hx hb dX2_takeNumber_76 (by decide) ?_
        refine lv_iadd hx hb dX2_takeNumber_77 ?_
        refine topi_eq (y := nI (pt + 1)) (aN rfl rfl) ?_
        refine pf_X2_26 hx hb hG hown hKX hP hD hS 0 rfl rfl rfl (Nat.le_of_ble_eq_true rfl) dX2_takeNumber_78 (wn := wX2 cy oc oc_signs oc_letters oc_numbers (nI ln) oc_clauses (nI (pt + 1))) rfl (fun H locs hP hD hS => ?_)
        refine lv_iinc (v := (1 : Int32)) (lv' := [(4, .int (1 : Int32)), (3, .int ((0 : Int32) + ((oc_signs pt) - (48 : Int32)))), (5, .int (0 : Int32)), (0, .ref (oc 0)), (1, .int (nI sl)), (2, .int (3 : Int32))]) hx hb dX2_takeNumber_81 hl (k := 2) rfl (by decide) (by decide) rfl (fun ls hl => ?_)
        refine lv_iinc (v := (1 : Int32)) (lv' := [(5, .int (1 : Int32)), (4, .int (1 : Int32)), (3, .int ((0 : Int32) + ((oc_signs pt) - (48 : Int32)))), (0, .ref (oc 0)), (1, .int (nI sl)), (2, .int (3 : Int32))]) hx hb dX2_takeNumber_84 hl (k := 2) rfl (by decide) (by decide) rfl (fun ls hl => ?_)
        refine lv_goto (tgt := 8) hx hb dX2_takeNumber_87 (by decide) ?_
        refine lv_iload hx hb dX2_takeNumber_8 (lv_at hl 0 rfl) ?_
        refine lv_iload_n hx hb dX2_takeNumber_10 rfl (lv_at hl 5 rfl) ?_
        refine lv_icmp_ge (tgt := 90) hx hb dX2_takeNumber_11 (by decide) (fun c9 => absurd c9 (by decide)) (fun c9 => ?_)
        refine lv_aload_n hx hb dX2_takeNumber_14 rfl (lv_at hl 3 rfl) ?_
        refine gf_X2_26 hx hb hG hown hKX hP 0 rfl rfl dX2_takeNumber_15 ?_
        refine lv_aload_n hx hb dX2_takeNumber_18 rfl (lv_at hl 3 rfl) ?_
        refine gf_X2_22 hx hb hG hown hKX hP 0 rfl rfl dX2_takeNumber_19 ?_
        refine lv_icmp_ge (tgt := 90) hx hb dX2_takeNumber_22 (by decide) (fun c10 => ?_) (fun c10 => ?_)
        · refine lv_iload hx hb dX2_takeNumber_90 (lv_at hl 1 rfl) ?_
          refine lv_if_eq (tgt := 108) hx hb dX2_takeNumber_92 (by decide) (fun c11 => absurd c11 (by decide)) (fun c11 => ?_)
          refine lv_iload_n hx hb dX2_takeNumber_95 rfl (lv_at hl 4 rfl) ?_
          refine lv_if_lt (tgt := 108) hx hb dX2_takeNumber_96 (by decide) (fun c12 => ?_) (fun c12 => ?_)
          · refine lv_iconst (v := (0 : Int32)) hx hb dX2_takeNumber_108 (by decide) ?_
            exact W.zret (v := (0 : Int32)) hx hb hr rfl (fun t ht hW => ⟨⟨(0 : Int32), (oc_numbers, pt + 1), rfl, by unfold f_X2_takeNumberd3; rw [if_neg c2, if_neg c5, if_neg c7, if_pos c10, if_pos c12] <;> rfl, by rw [ht]; exact hP, hD⟩, hS.F ht⟩) hS.2.2 dX2_takeNumber_109
          · refine lv_iload_n hx hb dX2_takeNumber_99 rfl (lv_at hl 4 rfl) ?_
            refine lv_aload_n hx hb dX2_takeNumber_100 rfl (lv_at hl 3 rfl) ?_
            refine gf_X2_19 hx hb hG hown hKX hP 0 rfl rfl dX2_takeNumber_101 ?_
            refine va_alen hx hb hKX.1 hP 3 0 rfl rfl (v := (36 : Int32)) rfl dX2_takeNumber_104 ?_
            refine lv_icmp_lt (tgt := 110) hx hb dX2_takeNumber_105 (by decide) (fun c13 => ?_) (fun c13 => ?_)
            · refine lv_aload_n hx hb dX2_takeNumber_110 rfl (lv_at hl 3 rfl) ?_
              refine gf_X2_19 hx hb hG hown hKX hP 0 rfl rfl dX2_takeNumber_111 ?_
              refine lv_iload_n hx hb dX2_takeNumber_114 rfl (lv_at hl 4 rfl) ?_
              refine lv_iload_n hx hb dX2_takeNumber_115 rfl (lv_at hl 2 rfl) ?_
              refine iast_n hx hb hKX hP hD hS 3 rfl rfl (by omega) (by decide) dX2_takeNumber_116 (fun H locs hP hD hS => ?_)
              have hP : va_P D vwCl (wX2 cy oc oc_signs oc_letters (upd oc_numbers sl ((0 : Int32) + ((oc_signs pt) - (48 : Int32)))) (nI ln) oc_clauses (nI (pt + 1))) H := hP
              have hD : va_D A (wX2 cy oc oc_signs oc_letters (upd oc_numbers sl ((0 : Int32) + ((oc_signs pt) - (48 : Int32)))) (nI ln) oc_clauses (nI (pt + 1))) := hD
              refine lv_iconst (v := (1 : Int32)) hx hb dX2_takeNumber_117 (by decide) ?_
              exact W.zret (v := (1 : Int32)) hx hb hr rfl (fun t ht hW => ⟨⟨(1 : Int32), (upd oc_numbers sl ((0 : Int32) + ((oc_signs pt) - (48 : Int32))), pt + 1), rfl, by unfold f_X2_takeNumberd3; rw [if_neg c2, if_neg c5, if_neg c7, if_pos c10, if_neg c12, if_pos c13] <;> rfl, by rw [ht]; exact hP, hD⟩, hS.F ht⟩) hS.2.2 dX2_takeNumber_118
            · refine lv_iconst (v := (0 : Int32)) hx hb dX2_takeNumber_108 (by decide) ?_
              exact W.zret (v := (0 : Int32)) hx hb hr rfl (fun t ht hW => ⟨⟨(0 : Int32), (oc_numbers, pt + 1), rfl, by unfold f_X2_takeNumberd3; rw [if_neg c2, if_neg c5, if_neg c7, if_pos c10, if_neg c12, if_neg c13] <;> rfl, by rw [ht]; exact hP, hD⟩, hS.F ht⟩) hS.2.2 dX2_takeNumber_109
        · have hat14 : pt + 1 < ln := Nat.lt_of_not_le (fun qq_ => c10 ((nI_leI (a := ln) (b := pt + 1) (by omega) (by omega)).mpr qq_))
          refine lv_aload_n hx hb dX2_takeNumber_25 rfl (lv_at hl 3 rfl) ?_
          refine gf_X2_9 hx hb hG hown hKX hP 0 rfl rfl dX2_takeNumber_26 ?_
          refine lv_aload_n hx hb dX2_takeNumber_29 rfl (lv_at hl 3 rfl) ?_
          refine gf_X2_26 hx hb hG hown hKX hP 0 rfl rfl dX2_takeNumber_30 ?_
          refine bald_n hx hb hKX hP 1 rfl rfl (by omega) (by decide) dX2_takeNumber_33 ?_
          refine lv_bipush (v := (48 : Int32)) hx hb dX2_takeNumber_34 (by decide) ?_
          refine lv_icmp_lt (tgt := 90) hx hb dX2_takeNumber_36 (by decide) (fun c15 => ?_) (fun c15 => ?_)
          · refine lv_iload hx hb dX2_takeNumber_90 (lv_at hl 1 rfl) ?_
            refine lv_if_eq (tgt := 108) hx hb dX2_takeNumber_92 (by decide) (fun c16 => absurd c16 (by decide)) (fun c16 => ?_)
            refine lv_iload_n hx hb dX2_takeNumber_95 rfl (lv_at hl 4 rfl) ?_
            refine lv_if_lt (tgt := 108) hx hb dX2_takeNumber_96 (by decide) (fun c17 => ?_) (fun c17 => ?_)
            · refine lv_iconst (v := (0 : Int32)) hx hb dX2_takeNumber_108 (by decide) ?_
              exact W.zret (v := (0 : Int32)) hx hb hr rfl (fun t ht hW => ⟨⟨(0 : Int32), (oc_numbers, pt + 1), rfl, by unfold f_X2_takeNumberd3; rw [if_neg c2, if_neg c5, if_neg c7, if_neg c10, if_pos c15, if_pos c17] <;> rfl, by rw [ht]; exact hP, hD⟩, hS.F ht⟩) hS.2.2 dX2_takeNumber_109
            · refine lv_iload_n hx hb dX2_takeNumber_99 rfl (lv_at hl 4 rfl) ?_
              refine lv_aload_n hx hb dX2_takeNumber_100 rfl (lv_at hl 3 rfl) ?_
              refine gf_X2_19 hx hb hG hown hKX hP 0 rfl rfl dX2_takeNumber_101 ?_
              refine va_alen hx hb hKX.1 hP 3 0 rfl rfl (v := (36 : Int32)) rfl dX2_takeNumber_104 ?_
              refine lv_icmp_lt (tgt := 110) hx hb dX2_takeNumber_105 (by decide) (fun c18 => ?_) (fun c18 => ?_)
              · refine lv_aload_n hx hb dX2_takeNumber_110 rfl (lv_at hl 3 rfl) ?_
                refine gf_X2_19 hx hb hG hown hKX hP 0 rfl rfl dX2_takeNumber_111 ?_
                refine lv_iload_n hx hb dX2_takeNumber_114 rfl (lv_at hl 4 rfl) ?_
                refine lv_iload_n hx hb dX2_takeNumber_115 rfl (lv_at hl 2 rfl) ?_
                refine iast_n hx hb hKX hP hD hS 3 rfl rfl (by omega) (by decide) dX2_takeNumber_116 (fun H locs hP hD hS => ?_)
                have hP : va_P D vwCl (wX2 cy oc oc_signs oc_letters (upd oc_numbers sl ((0 : Int32) + ((oc_signs pt) - (48 : Int32)))) (nI ln) oc_clauses (nI (pt + 1))) H := hP
                have hD : va_D A (wX2 cy oc oc_signs oc_letters (upd oc_numbers sl ((0 : Int32) + ((oc_signs pt) - (48 : Int32)))) (nI ln) oc_clauses (nI (pt + 1))) := hD
                refine lv_iconst (v := (1 : Int32)) hx hb dX2_takeNumber_117 (by decide) ?_
                exact W.zret (v := (1 : Int32)) hx hb hr rfl (fun t ht hW => ⟨⟨(1 : Int32), (upd oc_numbers sl ((0 : Int32) + ((oc_signs pt) - (48 : Int32))), pt + 1), rfl, by unfold f_X2_takeNumberd3; rw [if_neg c2, if_neg c5, if_neg c7, if_neg c10, if_pos c15, if_neg c17, if_pos c18] <;> rfl, by rw [ht]; exact hP, hD⟩, hS.F ht⟩) hS.2.2 dX2_takeNumber_118
              · refine lv_iconst (v := (0 : Int32)) hx hb dX2_takeNumber_108 (by decide) ?_
                exact W.zret (v := (0 : Int32)) hx hb hr rfl (fun t ht hW => ⟨⟨(0 : Int32), (oc_numbers, pt + 1), rfl, by unfold f_X2_takeNumberd3; rw [if_neg c2, if_neg c5, if_neg c7, if_neg c10, if_pos c15, if_neg c17, if_neg c18] <;> rfl, by rw [ht]; exact hP, hD⟩, hS.F ht⟩) hS.2.2 dX2_takeNumber_109
          · refine lv_aload_n hx hb dX2_takeNumber_39 rfl (lv_at hl 3 rfl) ?_
            refine gf_X2_9 hx hb hG hown hKX hP 0 rfl rfl dX2_takeNumber_40 ?_
            refine lv_aload_n hx hb dX2_takeNumber_43 rfl (lv_at hl 3 rfl) ?_
            refine gf_X2_26 hx hb hG hown hKX hP 0 rfl rfl dX2_takeNumber_44 ?_
            refine bald_n hx hb hKX hP 1 rfl rfl (by omega) (by decide) dX2_takeNumber_47 ?_
            refine lv_bipush (v := (57 : Int32)) hx hb dX2_takeNumber_48 (by decide) ?_
            refine lv_icmp_gt (tgt := 90) hx hb dX2_takeNumber_50 (by decide) (fun c19 => ?_) (fun c19 => ?_)
            · refine lv_iload hx hb dX2_takeNumber_90 (lv_at hl 1 rfl) ?_
              refine lv_if_eq (tgt := 108) hx hb dX2_takeNumber_92 (by decide) (fun c20 => absurd c20 (by decide)) (fun c20 => ?_)
              refine lv_iload_n hx hb dX2_takeNumber_95 rfl (lv_at hl 4 rfl) ?_
              refine lv_if_lt (tgt := 108) hx hb dX2_takeNumber_96 (by decide) (fun c21 => ?_) (fun c21 => ?_)
              · refine lv_iconst (v := (0 : Int32)) hx hb dX2_takeNumber_108 (by decide) ?_
                exact W.zret (v := (0 : Int32)) hx hb hr rfl (fun t ht hW => ⟨⟨(0 : Int32), (oc_numbers, pt + 1), rfl, by unfold f_X2_takeNumberd3; rw [if_neg c2, if_neg c5, if_neg c7, if_neg c10, if_neg c15, if_pos c19, if_pos c21] <;> rfl, by rw [ht]; exact hP, hD⟩, hS.F ht⟩) hS.2.2 dX2_takeNumber_109
              · refine lv_iload_n hx hb dX2_takeNumber_99 rfl (lv_at hl 4 rfl) ?_
                refine lv_aload_n hx hb dX2_takeNumber_100 rfl (lv_at hl 3 rfl) ?_
                refine gf_X2_19 hx hb hG hown hKX hP 0 rfl rfl dX2_takeNumber_101 ?_
                refine va_alen hx hb hKX.1 hP 3 0 rfl rfl (v := (36 : Int32)) rfl dX2_takeNumber_104 ?_
                refine lv_icmp_lt (tgt := 110) hx hb dX2_takeNumber_105 (by decide) (fun c22 => ?_) (fun c22 => ?_)
                · refine lv_aload_n hx hb dX2_takeNumber_110 rfl (lv_at hl 3 rfl) ?_
                  refine gf_X2_19 hx hb hG hown hKX hP 0 rfl rfl dX2_takeNumber_111 ?_
                  refine lv_iload_n hx hb dX2_takeNumber_114 rfl (lv_at hl 4 rfl) ?_
                  refine lv_iload_n hx hb dX2_takeNumber_115 rfl (lv_at hl 2 rfl) ?_
                  refine iast_n hx hb hKX hP hD hS 3 rfl rfl (by omega) (by decide) dX2_takeNumber_116 (fun H locs hP hD hS => ?_)
                  have hP : va_P D vwCl (wX2 cy oc oc_signs oc_letters (upd oc_numbers sl ((0 : Int32) + ((oc_signs pt) - (48 : Int32)))) (nI ln) oc_clauses (nI (pt + 1))) H := hP
                  have hD : va_D A (wX2 cy oc oc_signs oc_letters (upd oc_numbers sl ((0 : Int32) + ((oc_signs pt) - (48 : Int32)))) (nI ln) oc_clauses (nI (pt + 1))) := hD
                  refine lv_iconst (v := (1 : Int32)) hx hb dX2_takeNumber_117 (by decide) ?_
                  exact W.zret (v := (1 : Int32)) hx hb hr rfl (fun t ht hW => ⟨⟨(1 : Int32), (upd oc_numbers sl ((0 : Int32) + ((oc_signs pt) - (48 : Int32))), pt + 1), rfl, by unfold f_X2_takeNumberd3; rw [if_neg c2, if_neg c5, if_neg c7, if_neg c10, if_neg c15, if_pos c19, if_neg c21, if_pos c22] <;> rfl, by rw [ht]; exact hP, hD⟩, hS.F ht⟩) hS.2.2 dX2_takeNumber_118
                · refine lv_iconst (v := (0 : Int32)) hx hb dX2_takeNumber_108 (by decide) ?_
                  exact W.zret (v := (0 : Int32)) hx hb hr rfl (fun t ht hW => ⟨⟨(0 : Int32), (oc_numbers, pt + 1), rfl, by unfold f_X2_takeNumberd3; rw [if_neg c2, if_neg c5, if_neg c7, if_neg c10, if_neg c15, if_pos c19, if_neg c21, if_neg c22] <;> rfl, by rw [ht]; exact hP, hD⟩, hS.F ht⟩) hS.2.2 dX2_takeNumber_109
            · refine lv_iload_n hx hb dX2_takeNumber_53 rfl (lv_at hl 2 rfl) ?_
              refine lv_bipush (v := (10 : Int32)) hx hb dX2_takeNumber_54 (by decide) ?_
              refine lv_imul hx hb dX2_takeNumber_56 ?_
              refine lv_aload_n hx hb dX2_takeNumber_57 rfl (lv_at hl 3 rfl) ?_
              refine gf_X2_9 hx hb hG hown hKX hP 0 rfl rfl dX2_takeNumber_58 ?_
              refine lv_aload_n hx hb dX2_takeNumber_61 rfl (lv_at hl 3 rfl) ?_
              refine gf_X2_26 hx hb hG hown hKX hP 0 rfl rfl dX2_takeNumber_62 ?_
              refine bald_n hx hb hKX hP 1 rfl rfl (by omega) (by decide) dX2_takeNumber_65 ?_
              refine lv_bipush (v := (48 : Int32)) hx hb dX2_takeNumber_66 (by decide) ?_
              refine lv_isub hx hb dX2_takeNumber_68 ?_
              refine lv_iadd hx hb dX2_takeNumber_69 ?_
              refine lv_istore_n (lv' := [(3, .int ((((0 : Int32) + ((oc_signs pt) - (48 : Int32))) * (10 : Int32)) + ((oc_signs (pt + 1)) - (48 : Int32)))), (5, .int (1 : Int32)), (4, .int (1 : Int32)), (0, .ref (oc 0)), (1, .int (nI sl)), (2, .int (3 : Int32))]) hx hb dX2_takeNumber_70 rfl hl (by decide) rfl (fun ls hl => ?_)
              refine lv_aload_n hx hb dX2_takeNumber_71 rfl (lv_at hl 3 rfl) ?_
              refine lv_dup hx hb dX2_takeNumber_72 rfl ?_
              refine gf_X2_26 hx hb hG hown hKX hP 0 rfl rfl dX2_takeNumber_73 ?_
              refine lv_iconst (v := (1 : Int32)) hx hb dX2_takeNumber_76 (by decide) ?_
              refine lv_iadd hx hb dX2_takeNumber_77 ?_
              refine topi_eq (y := nI ((pt + 1) + 1)) (aN rfl rfl) ?_
              refine pf_X2_26 hx hb hG hown hKX hP hD hS 0 rfl rfl rfl (Nat.le_of_ble_eq_true rfl) dX2_takeNumber_78 (wn := wX2 cy oc oc_signs oc_letters oc_numbers (nI ln) oc_clauses (nI ((pt + 1) + 1))) rfl (fun H locs hP hD hS => ?_)
              refine lv_iinc (v := (2 : Int32)) (lv' := [(4, .int (2 : Int32)), (3, .int ((((0 : Int32) + ((oc_signs pt) - (48 : Int32))) * (10 : Int32)) + ((oc_signs (pt + 1)) - (48 : Int32)))), (5, .int (1 : Int32)), (0, .ref (oc 0)), (1, .int (nI sl)), (2, .int (3 : Int32))]) hx hb dX2_takeNumber_81 hl (k := 2) rfl (by decide) (by decide) rfl (fun ls hl => ?_)
              refine lv_iinc (v := (2 : Int32)) (lv' := [(5, .int (2 : Int32)), (4, .int (2 : Int32)), (3, .int ((((0 : Int32) + ((oc_signs pt) - (48 : Int32))) * (10 : Int32)) + ((oc_signs (pt + 1)) - (48 : Int32)))), (0, .ref (oc 0)), (1, .int (nI sl)), (2, .int (3 : Int32))]) hx hb dX2_takeNumber_84 hl (k := 2) rfl (by decide) (by decide) rfl (fun ls hl => ?_)
              refine lv_goto (tgt := 8) hx hb dX2_takeNumber_87 (by decide) ?_
              refine lv_iload hx hb dX2_takeNumber_8 (lv_at hl 0 rfl) ?_
              refine lv_iload_n hx hb dX2_takeNumber_10 rfl (lv_at hl 5 rfl) ?_
              refine lv_icmp_ge (tgt := 90) hx hb dX2_takeNumber_11 (by decide) (fun c23 => absurd c23 (by decide)) (fun c23 => ?_)
              refine lv_aload_n hx hb dX2_takeNumber_14 rfl (lv_at hl 3 rfl) ?_
              refine gf_X2_26 hx hb hG hown hKX hP 0 rfl rfl dX2_takeNumber_15 ?_
              refine lv_aload_n hx hb dX2_takeNumber_18 rfl (lv_at hl 3 rfl) ?_
              refine gf_X2_22 hx hb hG hown hKX hP 0 rfl rfl dX2_takeNumber_19 ?_
              refine lv_icmp_ge (tgt := 90) hx hb dX2_takeNumber_22 (by decide) (fun c24 => ?_) (fun c24 => ?_)
              · refine lv_iload hx hb dX2_takeNumber_90 (lv_at hl 1 rfl) ?_
                refine lv_if_eq (tgt := 108) hx hb dX2_takeNumber_92 (by decide) (fun c25 => absurd c25 (by decide)) (fun c25 => ?_)
                refine lv_iload_n hx hb dX2_takeNumber_95 rfl (lv_at hl 4 rfl) ?_
                refine lv_if_lt (tgt := 108) hx hb dX2_takeNumber_96 (by decide) (fun c26 => ?_) (fun c26 => ?_)
                · refine lv_iconst (v := (0 : Int32)) hx hb dX2_takeNumber_108 (by decide) ?_
                  exact W.zret (v := (0 : Int32)) hx hb hr rfl (fun t ht hW => ⟨⟨(0 : Int32), (oc_numbers, (pt + 1) + 1), rfl, by unfold f_X2_takeNumberd3; rw [if_neg c2, if_neg c5, if_neg c7, if_neg c10, if_neg c15, if_neg c19, if_pos c24, if_pos c26] <;> rfl, by rw [ht]; exact hP, hD⟩, hS.F ht⟩) hS.2.2 dX2_takeNumber_109
                · refine lv_iload_n hx hb dX2_takeNumber_99 rfl (lv_at hl 4 rfl) ?_
                  refine lv_aload_n hx hb dX2_takeNumber_100 rfl (lv_at hl 3 rfl) ?_
                  refine gf_X2_19 hx hb hG hown hKX hP 0 rfl rfl dX2_takeNumber_101 ?_
                  refine va_alen hx hb hKX.1 hP 3 0 rfl rfl (v := (36 : Int32)) rfl dX2_takeNumber_104 ?_
                  refine lv_icmp_lt (tgt := 110) hx hb dX2_takeNumber_105 (by decide) (fun c27 => ?_) (fun c27 => ?_)
                  · refine lv_aload_n hx hb dX2_takeNumber_110 rfl (lv_at hl 3 rfl) ?_
                    refine gf_X2_19 hx hb hG hown hKX hP 0 rfl rfl dX2_takeNumber_111 ?_
                    refine lv_iload_n hx hb dX2_takeNumber_114 rfl (lv_at hl 4 rfl) ?_
                    refine lv_iload_n hx hb dX2_takeNumber_115 rfl (lv_at hl 2 rfl) ?_
                    refine iast_n hx hb hKX hP hD hS 3 rfl rfl (by omega) (by decide) dX2_takeNumber_116 (fun H locs hP hD hS => ?_)
                    have hP : va_P D vwCl (wX2 cy oc oc_signs oc_letters (upd oc_numbers sl ((((0 : Int32) + ((oc_signs pt) - (48 : Int32))) * (10 : Int32)) + ((oc_signs (pt + 1)) - (48 : Int32)))) (nI ln) oc_clauses (nI ((pt + 1) + 1))) H := hP
                    have hD : va_D A (wX2 cy oc oc_signs oc_letters (upd oc_numbers sl ((((0 : Int32) + ((oc_signs pt) - (48 : Int32))) * (10 : Int32)) + ((oc_signs (pt + 1)) - (48 : Int32)))) (nI ln) oc_clauses (nI ((pt + 1) + 1))) := hD
                    refine lv_iconst (v := (1 : Int32)) hx hb dX2_takeNumber_117 (by decide) ?_
                    exact W.zret (v := (1 : Int32)) hx hb hr rfl (fun t ht hW => ⟨⟨(1 : Int32), (upd oc_numbers sl ((((0 : Int32) + ((oc_signs pt) - (48 : Int32))) * (10 : Int32)) + ((oc_signs (pt + 1)) - (48 : Int32))), (pt + 1) + 1), rfl, by unfold f_X2_takeNumberd3; rw [if_neg c2, if_neg c5, if_neg c7, if_neg c10, if_neg c15, if_neg c19, if_pos c24, if_neg c26, if_pos c27] <;> rfl, by rw [ht]; exact hP, hD⟩, hS.F ht⟩) hS.2.2 dX2_takeNumber_118
                  · refine lv_iconst (v := (0 : Int32)) hx hb dX2_takeNumber_108 (by decide) ?_
                    exact W.zret (v := (0 : Int32)) hx hb hr rfl (fun t ht hW => ⟨⟨(0 : Int32), (oc_numbers, (pt + 1) + 1), rfl, by unfold f_X2_takeNumberd3; rw [if_neg c2, if_neg c5, if_neg c7, if_neg c10, if_neg c15, if_neg c19, if_pos c24, if_neg c26, if_neg c27] <;> rfl, by rw [ht]; exact hP, hD⟩, hS.F ht⟩) hS.2.2 dX2_takeNumber_109
              · have hat28 : (pt + 1) + 1 < ln := Nat.lt_of_not_le (fun qq_ => c24 ((nI_leI (a := ln) (b := (pt + 1) + 1) (by omega) (by omega)).mpr qq_))
                refine lv_aload_n hx hb dX2_takeNumber_25 rfl (lv_at hl 3 rfl) ?_
                refine gf_X2_9 hx hb hG hown hKX hP 0 rfl rfl dX2_takeNumber_26 ?_
                refine lv_aload_n hx hb dX2_takeNumber_29 rfl (lv_at hl 3 rfl) ?_
                refine gf_X2_26 hx hb hG hown hKX hP 0 rfl rfl dX2_takeNumber_30 ?_
                refine bald_n hx hb hKX hP 1 rfl rfl (by omega) (by decide) dX2_takeNumber_33 ?_
                refine lv_bipush (v := (48 : Int32)) hx hb dX2_takeNumber_34 (by decide) ?_
                refine lv_icmp_lt (tgt := 90) hx hb dX2_takeNumber_36 (by decide) (fun c29 => ?_) (fun c29 => ?_)
                · refine lv_iload hx hb dX2_takeNumber_90 (lv_at hl 1 rfl) ?_
                  refine lv_if_eq (tgt := 108) hx hb dX2_takeNumber_92 (by decide) (fun c30 => absurd c30 (by decide)) (fun c30 => ?_)
                  refine lv_iload_n hx hb dX2_takeNumber_95 rfl (lv_at hl 4 rfl) ?_
                  refine lv_if_lt (tgt := 108) hx hb dX2_takeNumber_96 (by decide) (fun c31 => ?_) (fun c31 => ?_)
                  · refine lv_iconst (v := (0 : Int32)) hx hb dX2_takeNumber_108 (by decide) ?_
                    exact W.zret (v := (0 : Int32)) hx hb hr rfl (fun t ht hW => ⟨⟨(0 : Int32), (oc_numbers, (pt + 1) + 1), rfl, by unfold f_X2_takeNumberd3; rw [if_neg c2, if_neg c5, if_neg c7, if_neg c10, if_neg c15, if_neg c19, if_neg c24, if_pos c29, if_pos c31] <;> rfl, by rw [ht]; exact hP, hD⟩, hS.F ht⟩) hS.2.2 dX2_takeNumber_109
                  · refine lv_iload_n hx hb dX2_takeNumber_99 rfl (lv_at hl 4 rfl) ?_
                    refine lv_aload_n hx hb dX2_takeNumber_100 rfl (lv_at hl 3 rfl) ?_
                    refine gf_X2_19 hx hb hG hown hKX hP 0 rfl rfl dX2_takeNumber_101 ?_
                    refine va_alen hx hb hKX.1 hP 3 0 rfl rfl (v := (36 : Int32)) rfl dX2_takeNumber_104 ?_
                    refine lv_icmp_lt (tgt := 110) hx hb dX2_takeNumber_105 (by decide) (fun c32 => ?_) (fun c32 => ?_)
                    · refine lv_aload_n hx hb dX2_takeNumber_110 rfl (lv_at hl 3 rfl) ?_
                      refine gf_X2_19 hx hb hG hown hKX hP 0 rfl rfl dX2_takeNumber_111 ?_
                      refine lv_iload_n hx hb dX2_takeNumber_114 rfl (lv_at hl 4 rfl) ?_
                      refine lv_iload_n hx hb dX2_takeNumber_115 rfl (lv_at hl 2 rfl) ?_
                      refine iast_n hx hb hKX hP hD hS 3 rfl rfl (by omega) (by decide) dX2_takeNumber_116 (fun H locs hP hD hS => ?_)
                      have hP : va_P D vwCl (wX2 cy oc oc_signs oc_letters (upd oc_numbers sl ((((0 : Int32) + ((oc_signs pt) - (48 : Int32))) * (10 : Int32)) + ((oc_signs (pt + 1)) - (48 : Int32)))) (nI ln) oc_clauses (nI ((pt + 1) + 1))) H := hP
                      have hD : va_D A (wX2 cy oc oc_signs oc_letters (upd oc_numbers sl ((((0 : Int32) + ((oc_signs pt) - (48 : Int32))) * (10 : Int32)) + ((oc_signs (pt + 1)) - (48 : Int32)))) (nI ln) oc_clauses (nI ((pt + 1) + 1))) := hD
                      refine lv_iconst (v := (1 : Int32)) hx hb dX2_takeNumber_117 (by decide) ?_
                      exact W.zret (v := (1 : Int32)) hx hb hr rfl (fun t ht hW => ⟨⟨(1 : Int32), (upd oc_numbers sl ((((0 : Int32) + ((oc_signs pt) - (48 : Int32))) * (10 : Int32)) + ((oc_signs (pt + 1)) - (48 : Int32))), (pt + 1) + 1), rfl, by unfold f_X2_takeNumberd3; rw [if_neg c2, if_neg c5, if_neg c7, if_neg c10, if_neg c15, if_neg c19, if_neg c24, if_pos c29, if_neg c31, if_pos c32] <;> rfl, by rw [ht]; exact hP, hD⟩, hS.F ht⟩) hS.2.2 dX2_takeNumber_118
                    · refine lv_iconst (v := (0 : Int32)) hx hb dX2_takeNumber_108 (by decide) ?_
                      exact W.zret (v := (0 : Int32)) hx hb hr rfl (fun t ht hW => ⟨⟨(0 : Int32), (oc_numbers, (pt + 1) + 1), rfl, by unfold f_X2_takeNumberd3; rw [if_neg c2, if_neg c5, if_neg c7, if_neg c10, if_neg c15, if_neg c19, if_neg c24, if_pos c29, if_neg c31, if_neg c32] <;> rfl, by rw [ht]; exact hP, hD⟩, hS.F ht⟩) hS.2.2 dX2_takeNumber_109
                · refine lv_aload_n hx hb dX2_takeNumber_39 rfl (lv_at hl 3 rfl) ?_
                  refine gf_X2_9 hx hb hG hown hKX hP 0 rfl rfl dX2_takeNumber_40 ?_
                  refine lv_aload_n hx hb dX2_takeNumber_43 rfl (lv_at hl 3 rfl) ?_
                  refine gf_X2_26 hx hb hG hown hKX hP 0 rfl rfl dX2_takeNumber_44 ?_
                  refine bald_n hx hb hKX hP 1 rfl rfl (by omega) (by decide) dX2_takeNumber_47 ?_
                  refine lv_bipush (v := (57 : Int32)) hx hb dX2_takeNumber_48 (by decide) ?_
                  refine lv_icmp_gt (tgt := 90) hx hb dX2_takeNumber_50 (by decide) (fun c33 => ?_) (fun c33 => ?_)
                  · refine lv_iload hx hb dX2_takeNumber_90 (lv_at hl 1 rfl) ?_
                    refine lv_if_eq (tgt := 108) hx hb dX2_takeNumber_92 (by decide) (fun c34 => absurd c34 (by decide)) (fun c34 => ?_)
                    refine lv_iload_n hx hb dX2_takeNumber_95 rfl (lv_at hl 4 rfl) ?_
                    refine lv_if_lt (tgt := 108) hx hb dX2_takeNumber_96 (by decide) (fun c35 => ?_) (fun c35 => ?_)
                    · refine lv_iconst (v := (0 : Int32)) hx hb dX2_takeNumber_108 (by decide) ?_
                      exact W.zret (v := (0 : Int32)) hx hb hr rfl (fun t ht hW => ⟨⟨(0 : Int32), (oc_numbers, (pt + 1) + 1), rfl, by unfold f_X2_takeNumberd3; rw [if_neg c2, if_neg c5, if_neg c7, if_neg c10, if_neg c15, if_neg c19, if_neg c24, if_neg c29, if_pos c33, if_pos c35] <;> rfl, by rw [ht]; exact hP, hD⟩, hS.F ht⟩) hS.2.2 dX2_takeNumber_109
                    · refine lv_iload_n hx hb dX2_takeNumber_99 rfl (lv_at hl 4 rfl) ?_
                      refine lv_aload_n hx hb dX2_takeNumber_100 rfl (lv_at hl 3 rfl) ?_
                      refine gf_X2_19 hx hb hG hown hKX hP 0 rfl rfl dX2_takeNumber_101 ?_
                      refine va_alen hx hb hKX.1 hP 3 0 rfl rfl (v := (36 : Int32)) rfl dX2_takeNumber_104 ?_
                      refine lv_icmp_lt (tgt := 110) hx hb dX2_takeNumber_105 (by decide) (fun c36 => ?_) (fun c36 => ?_)
                      · refine lv_aload_n hx hb dX2_takeNumber_110 rfl (lv_at hl 3 rfl) ?_
                        refine gf_X2_19 hx hb hG hown hKX hP 0 rfl rfl dX2_takeNumber_111 ?_
                        refine lv_iload_n hx hb dX2_takeNumber_114 rfl (lv_at hl 4 rfl) ?_
                        refine lv_iload_n hx hb dX2_takeNumber_115 rfl (lv_at hl 2 rfl) ?_
                        refine iast_n hx hb hKX hP hD hS 3 rfl rfl (by omega) (by decide) dX2_takeNumber_116 (fun H locs hP hD hS => ?_)
                        have hP : va_P D vwCl (wX2 cy oc oc_signs oc_letters (upd oc_numbers sl ((((0 : Int32) + ((oc_signs pt) - (48 : Int32))) * (10 : Int32)) + ((oc_signs (pt + 1)) - (48 : Int32)))) (nI ln) oc_clauses (nI ((pt + 1) + 1))) H := hP
                        have hD : va_D A (wX2 cy oc oc_signs oc_letters (upd oc_numbers sl ((((0 : Int32) + ((oc_signs pt) - (48 : Int32))) * (10 : Int32)) + ((oc_signs (pt + 1)) - (48 : Int32)))) (nI ln) oc_clauses (nI ((pt + 1) + 1))) := hD
                        refine lv_iconst (v := (1 : Int32)) hx hb dX2_takeNumber_117 (by decide) ?_
                        exact W.zret (v := (1 : Int32)) hx hb hr rfl (fun t ht hW => ⟨⟨(1 : Int32), (upd oc_numbers sl ((((0 : Int32) + ((oc_signs pt) - (48 : Int32))) * (10 : Int32)) + ((oc_signs (pt + 1)) - (48 : Int32))), (pt + 1) + 1), rfl, by unfold f_X2_takeNumberd3; rw [if_neg c2, if_neg c5, if_neg c7, if_neg c10, if_neg c15, if_neg c19, if_neg c24, if_neg c29, if_pos c33, if_neg c35, if_pos c36] <;> rfl, by rw [ht]; exact hP, hD⟩, hS.F ht⟩) hS.2.2 dX2_takeNumber_118
                      · refine lv_iconst (v := (0 : Int32)) hx hb dX2_takeNumber_108 (by decide) ?_
                        exact W.zret (v := (0 : Int32)) hx hb hr rfl (fun t ht hW => ⟨⟨(0 : Int32), (oc_numbers, (pt + 1) + 1), rfl, by unfold f_X2_takeNumberd3; rw [if_neg c2, if_neg c5, if_neg c7, if_neg c10, if_neg c15, if_neg c19, if_neg c24, if_neg c29, if_pos c33, if_neg c35, if_neg c36] <;> rfl, by rw [ht]; exact hP, hD⟩, hS.F ht⟩) hS.2.2 dX2_takeNumber_109
                  · refine lv_iload_n hx hb dX2_takeNumber_53 rfl (lv_at hl 2 rfl) ?_
                    refine lv_bipush (v := (10 : Int32)) hx hb dX2_takeNumber_54 (by decide) ?_
                    refine lv_imul hx hb dX2_takeNumber_56 ?_
                    refine lv_aload_n hx hb dX2_takeNumber_57 rfl (lv_at hl 3 rfl) ?_
                    refine gf_X2_9 hx hb hG hown hKX hP 0 rfl rfl dX2_takeNumber_58 ?_
                    refine lv_aload_n hx hb dX2_takeNumber_61 rfl (lv_at hl 3 rfl) ?_
                    refine gf_X2_26 hx hb hG hown hKX hP 0 rfl rfl dX2_takeNumber_62 ?_
                    refine bald_n hx hb hKX hP 1 rfl rfl (by omega) (by decide) dX2_takeNumber_65 ?_
                    refine lv_bipush (v := (48 : Int32)) hx hb dX2_takeNumber_66 (by decide) ?_
                    refine lv_isub hx hb dX2_takeNumber_68 ?_
                    refine lv_iadd hx hb dX2_takeNumber_69 ?_
                    refine lv_istore_n (lv' := [(3, .int ((((((0 : Int32) + ((oc_signs pt) - (48 : Int32))) * (10 : Int32)) + ((oc_signs (pt + 1)) - (48 : Int32))) * (10 : Int32)) + ((oc_signs ((pt + 1) + 1)) - (48 : Int32)))), (5, .int (2 : Int32)), (4, .int (2 : Int32)), (0, .ref (oc 0)), (1, .int (nI sl)), (2, .int (3 : Int32))]) hx hb dX2_takeNumber_70 rfl hl (by decide) rfl (fun ls hl => ?_)
                    refine lv_aload_n hx hb dX2_takeNumber_71 rfl (lv_at hl 3 rfl) ?_
                    refine lv_dup hx hb dX2_takeNumber_72 rfl ?_
                    refine gf_X2_26 hx hb hG hown hKX hP 0 rfl rfl dX2_takeNumber_73 ?_
                    refine lv_iconst (v := (1 : Int32)) hx hb dX2_takeNumber_76 (by decide) ?_
                    refine lv_iadd hx hb dX2_takeNumber_77 ?_
                    refine topi_eq (y := nI (((pt + 1) + 1) + 1)) (aN rfl rfl) ?_
                    refine pf_X2_26 hx hb hG hown hKX hP hD hS 0 rfl rfl rfl (Nat.le_of_ble_eq_true rfl) dX2_takeNumber_78 (wn := wX2 cy oc oc_signs oc_letters oc_numbers (nI ln) oc_clauses (nI (((pt + 1) + 1) + 1))) rfl (fun H locs hP hD hS => ?_)
                    refine lv_iinc (v := (3 : Int32)) (lv' := [(4, .int (3 : Int32)), (3, .int ((((((0 : Int32) + ((oc_signs pt) - (48 : Int32))) * (10 : Int32)) + ((oc_signs (pt + 1)) - (48 : Int32))) * (10 : Int32)) + ((oc_signs ((pt + 1) + 1)) - (48 : Int32)))), (5, .int (2 : Int32)), (0, .ref (oc 0)), (1, .int (nI sl)), (2, .int (3 : Int32))]) hx hb dX2_takeNumber_81 hl (k := 2) rfl (by decide) (by decide) rfl (fun ls hl => ?_)
                    refine lv_iinc (v := (3 : Int32)) (lv' := [(5, .int (3 : Int32)), (4, .int (3 : Int32)), (3, .int ((((((0 : Int32) + ((oc_signs pt) - (48 : Int32))) * (10 : Int32)) + ((oc_signs (pt + 1)) - (48 : Int32))) * (10 : Int32)) + ((oc_signs ((pt + 1) + 1)) - (48 : Int32)))), (0, .ref (oc 0)), (1, .int (nI sl)), (2, .int (3 : Int32))]) hx hb dX2_takeNumber_84 hl (k := 2) rfl (by decide) (by decide) rfl (fun ls hl => ?_)
                    refine lv_goto (tgt := 8) hx hb dX2_takeNumber_87 (by decide) ?_
                    refine lv_iload hx hb dX2_takeNumber_8 (lv_at hl 0 rfl) ?_
                    refine lv_iload_n hx hb dX2_takeNumber_10 rfl (lv_at hl 5 rfl) ?_
                    refine lv_icmp_ge (tgt := 90) hx hb dX2_takeNumber_11 (by decide) (fun c37 => ?_) (fun c37 => absurd (by decide) c37)
                    refine lv_iload hx hb dX2_takeNumber_90 (lv_at hl 1 rfl) ?_
                    refine lv_if_eq (tgt := 108) hx hb dX2_takeNumber_92 (by decide) (fun c38 => absurd c38 (by decide)) (fun c38 => ?_)
                    refine lv_iload_n hx hb dX2_takeNumber_95 rfl (lv_at hl 4 rfl) ?_
                    refine lv_if_lt (tgt := 108) hx hb dX2_takeNumber_96 (by decide) (fun c39 => ?_) (fun c39 => ?_)
                    · refine lv_iconst (v := (0 : Int32)) hx hb dX2_takeNumber_108 (by decide) ?_
                      exact W.zret (v := (0 : Int32)) hx hb hr rfl (fun t ht hW => ⟨⟨(0 : Int32), (oc_numbers, ((pt + 1) + 1) + 1), rfl, by unfold f_X2_takeNumberd3; rw [if_neg c2, if_neg c5, if_neg c7, if_neg c10, if_neg c15, if_neg c19, if_neg c24, if_neg c29, if_neg c33, if_pos c39] <;> rfl, by rw [ht]; exact hP, hD⟩, hS.F ht⟩) hS.2.2 dX2_takeNumber_109
                    · refine lv_iload_n hx hb dX2_takeNumber_99 rfl (lv_at hl 4 rfl) ?_
                      refine lv_aload_n hx hb dX2_takeNumber_100 rfl (lv_at hl 3 rfl) ?_
                      refine gf_X2_19 hx hb hG hown hKX hP 0 rfl rfl dX2_takeNumber_101 ?_
                      refine va_alen hx hb hKX.1 hP 3 0 rfl rfl (v := (36 : Int32)) rfl dX2_takeNumber_104 ?_
                      refine lv_icmp_lt (tgt := 110) hx hb dX2_takeNumber_105 (by decide) (fun c40 => ?_) (fun c40 => ?_)
                      · refine lv_aload_n hx hb dX2_takeNumber_110 rfl (lv_at hl 3 rfl) ?_
                        refine gf_X2_19 hx hb hG hown hKX hP 0 rfl rfl dX2_takeNumber_111 ?_
                        refine lv_iload_n hx hb dX2_takeNumber_114 rfl (lv_at hl 4 rfl) ?_
                        refine lv_iload_n hx hb dX2_takeNumber_115 rfl (lv_at hl 2 rfl) ?_
                        refine iast_n hx hb hKX hP hD hS 3 rfl rfl (by omega) (by decide) dX2_takeNumber_116 (fun H locs hP hD hS => ?_)
                        have hP : va_P D vwCl (wX2 cy oc oc_signs oc_letters (upd oc_numbers sl ((((((0 : Int32) + ((oc_signs pt) - (48 : Int32))) * (10 : Int32)) + ((oc_signs (pt + 1)) - (48 : Int32))) * (10 : Int32)) + ((oc_signs ((pt + 1) + 1)) - (48 : Int32)))) (nI ln) oc_clauses (nI (((pt + 1) + 1) + 1))) H := hP
                        have hD : va_D A (wX2 cy oc oc_signs oc_letters (upd oc_numbers sl ((((((0 : Int32) + ((oc_signs pt) - (48 : Int32))) * (10 : Int32)) + ((oc_signs (pt + 1)) - (48 : Int32))) * (10 : Int32)) + ((oc_signs ((pt + 1) + 1)) - (48 : Int32)))) (nI ln) oc_clauses (nI (((pt + 1) + 1) + 1))) := hD
                        refine lv_iconst (v := (1 : Int32)) hx hb dX2_takeNumber_117 (by decide) ?_
                        exact W.zret (v := (1 : Int32)) hx hb hr rfl (fun t ht hW => ⟨⟨(1 : Int32), (upd oc_numbers sl ((((((0 : Int32) + ((oc_signs pt) - (48 : Int32))) * (10 : Int32)) + ((oc_signs (pt + 1)) - (48 : Int32))) * (10 : Int32)) + ((oc_signs ((pt + 1) + 1)) - (48 : Int32))), ((pt + 1) + 1) + 1), rfl, by unfold f_X2_takeNumberd3; rw [if_neg c2, if_neg c5, if_neg c7, if_neg c10, if_neg c15, if_neg c19, if_neg c24, if_neg c29, if_neg c33, if_neg c39, if_pos c40] <;> rfl, by rw [ht]; exact hP, hD⟩, hS.F ht⟩) hS.2.2 dX2_takeNumber_118
                      · refine lv_iconst (v := (0 : Int32)) hx hb dX2_takeNumber_108 (by decide) ?_
                        exact W.zret (v := (0 : Int32)) hx hb hr rfl (fun t ht hW => ⟨⟨(0 : Int32), (oc_numbers, ((pt + 1) + 1) + 1), rfl, by unfold f_X2_takeNumberd3; rw [if_neg c2, if_neg c5, if_neg c7, if_neg c10, if_neg c15, if_neg c19, if_neg c24, if_neg c29, if_neg c33, if_neg c39, if_neg c40] <;> rfl, by rw [ht]; exact hP, hD⟩, hS.F ht⟩) hS.2.2 dX2_takeNumber_109
theorem takeNumberd3_l {f g : Nat → Int32} {ln pt sl : Nat} (h : pt ≤ ln) (hl : ln ≤ 100) : (f_X2_takeNumberd3 f g ln pt sl).2.2 ≤ ln := by
  unfold f_X2_takeNumberd3
  repeat' refine iteP (P := fun x : Int32 × (Nat → Int32) × Nat => x.2.2 ≤ ln) (fun _ => ?_) (fun _ => ?_)
  all_goals first | exact h | (simp only [nI_leI (show ln < 2 ^ 31 by omega) (show pt < 2 ^ 31 by omega), nI_leI (show ln < 2 ^ 31 by omega) (show pt + 1 < 2 ^ 31 by omega), nI_leI (show ln < 2 ^ 31 by omega) (show pt + 1 + 1 < 2 ^ 31 by omega)] at *; omega)
theorem takeNumberd3_le {f g : Nat → Int32} {ln pt sl : Nat} {r : Int32} {u : (Nat → Int32) × Nat} (hw : (r, u) = f_X2_takeNumberd3 f g ln pt sl) (h : pt ≤ ln) (hl : ln ≤ 100) : u.2 ≤ ln := by
  rw [show u = (f_X2_takeNumberd3 f g ln pt sl).2 from congrArg Prod.snd hw]
  exact takeNumberd3_l h hl
