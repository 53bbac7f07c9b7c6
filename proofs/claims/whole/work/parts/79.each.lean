/-! judged: alike -/
theorem srch2 {α β γ : Type} {b : Nat → Option (α × β)} {c : Nat → Option (α × γ)} {d : α} {x : β} {y : γ} : ∀ N k, (∀ j, k ≤ j → j < k + N → (b j).map Prod.fst = (c j).map Prod.fst) → ((srch b N k).getD (d, x)).1 = ((srch c N k).getD (d, y)).1
  | 0, _, _ => rfl
  | N + 1, k, h => by
    have h0 := h k (Nat.le_refl k) (by omega)
    unfold srch
    cases e1 : b k with
    | none =>
      cases e2 : c k with
      | none => exact srch2 N (k + 1) (fun j j1 j2 => h j (by omega) (by omega))
      | some q => rw [e1, e2] at h0; cases h0
    | some p =>
      cases e2 : c k with
      | none => rw [e1, e2] at h0; cases h0
      | some q =>
        rw [e1, e2] at h0
        exact Option.some.inj h0
theorem pk64 {x k : Nat} (hx : x < 2 ^ 31) (hk : k < 100) : ((nI x).toInt64 + (nI k).toInt64).toInt = (x : Int) + k := by
  rw [Int64.toInt_add, Int32.toInt_toInt64, Int32.toInt_toInt64, nI_toInt hx, nI_toInt (by omega)]
  exact Int.bmod_eq_of_le (by omega) (by omega)
theorem pk64n {x k : Nat} (h : x + k < 100) : ((nI x).toInt64 + (nI k).toInt64).toInt32.toNatClampNeg = x + k := by
  have e : ((nI x).toInt64 + (nI k).toInt64).toInt32 = nI (x + k) := by
    apply Int32.toInt_inj.mp
    rw [Int64.toInt_toInt32, pk64 (by omega) (by omega), nI_toInt (by omega)]
    rw [show ((x : Int) + k) = ((x + k : Nat) : Int) by omega]
    exact Int.bmod_eq_of_le (by omega) (by omega)
  rw [e, nI_clamp (by omega)]
theorem lm_lt {x lm k : Nat} (hx : x < 2 ^ 31) (hl : lm ≤ 60) (hk : k < 100) : nI x < nI lm - nI k ↔ x + k < lm := by
  by_cases q : k ≤ lm
  · rw [pk_sub q, nI_ltI hx (by omega)]; omega
  · rw [Int32.lt_iff_toInt_lt, sub_neg hl (by omega) (by omega), nI_toInt hx]; omega
theorem e_judge {n lo : Nat} {kind limit ret quo refers : Nat → Int32} {q1 q2 q3 : Nat} {a1 b1 a2 b2 a3 b3 s : Nat → Int32} (h : TD n lo kind limit ret quo refers q1 q2 q3 a1 b1 a2 b2 a3 b3 s) {ts : Nat → Int32} {tl : Nat → Nat} {ti : Nat → Nat → Int64} {so sz : Nat → Int32} {it : Nat → Int64} (ht : TP ts tl ti so sz it) {j : Nat} (hj : j < 6) (r g u o M P F B R L RP a b d e P7 LO RQ mo : Nat → Int32) (x6 y6 x7 : Int32) (i : Int32) (r6 r7 : Nat) : (f_X6_judgev kind limit ret quo refers (nI lo) r g u o M P F B R L RP x6 y6 (ti j) (ts j) i n r6 j (tl j)).1 = (f_X7_judgev s a b d e P7 LO RQ x7 mo so it i n r7 j (tl j)).1 := by
  have hS := settle_pay h r g u o M P F B R L RP a b d e P7 LO RQ mo
  have hn := h.1.1
  obtain ⟨h1, h2, h3, h4, h5, h6⟩ := ht j hj
  unfold f_X6_judgev f_X7_judgev
  generalize f_X0_settle r g u o M P F B R L RP kind limit ret quo refers (nI lo) n = z at hS ⊢
  generalize f_X7_pay s a b d e P7 LO RQ mo n = w at hS ⊢
  rw [if_neg (tape_ok6 hj), if_neg (tape_ok7 hj)]
  have n0 : nI n = (0 : Int32) ↔ n = 0 := nI_eq (a := n) (b := 0) (by omega) (by omega)
  have first : ∀ (v : Int32), 0 < n → bd_X7_judgev_38 so it i j (tl j) w 0 = some (v, w) → ((srch (bd_X7_judgev_38 so it i j (tl j) w) n 0).getD (-5, w)).1 = v := fun v hn0 hb => by
    rw [srch_some (t := 0) (fun k hk => absurd hk (Nat.not_lt_zero k)) hn0 hb]
    rfl
  by_cases c1 : so j = -1
  · rw [if_pos (holds_iff.mpr (h1.trans c1)), if_pos c1]
    by_cases c2 : n = 0
    · rw [if_pos (n0.mpr c2)]
      subst c2
      rfl
    · rw [if_neg (fun q => c2 (n0.mp q))]
      refine (first 100 (by omega) ?_).symm
      unfold bd_X7_judgev_38
      rw [if_pos c1]
      rfl
  rw [if_neg (fun q => c1 (h1.symm.trans (holds_iff.mp q))), if_neg c1, h1]
  by_cases c3 : so j = 3
  rotate_left
  · rw [if_neg c3, if_neg c3]
  rw [if_pos c3, if_pos c3]
  by_cases c2 : n = 0
  · rw [if_pos (n0.mpr c2)]
    subst c2
    rfl
  rw [if_neg (fun q => c2 (n0.mp q))]
  by_cases c4 : 0 ≤ i
  rotate_left
  · rw [if_neg c4]
    refine (first 100 (by omega) ?_).symm
    unfold bd_X7_judgev_38
    rw [if_neg c1, if_pos]
    · rfl
    · rw [lgc_lt]
      have e0 : (0 : Int64).toInt = 0 := by decide
      have e1 : (nI 0).toInt64 = 0 := by decide
      have : i.toInt < 0 := by
        have := Int32.lt_iff_toInt_lt.mp (Int32.not_le.mp c4)
        have e6 : (0 : Int32).toInt = 0 := by decide
        omega
      rw [e1, Int64.add_zero, Int32.toInt_toInt64, e0]
      exact this
  rw [if_pos c4]
  obtain ⟨x, hx, rfl⟩ := nI_of (x := i) (Int32.not_lt.mpr c4)
  rw [nI_clamp hx]
  refine srch2 n 0 (fun k _ hk => ?_)
  have hp := (spz_of hn hS (show k < n by omega)).2.2.2.2
  unfold bd_X6_judgev_78 bd_X7_judgev_38
  have e0 : (0 : Int64).toInt = 0 := by decide
  rw [if_neg c1, if_neg (show ¬ lg_cmp ((nI x).toInt64 + (nI k).toInt64) 0 < 0 from fun q => by
    have := lgc_lt.mp q
    rw [pk64 hx (by omega), e0] at this
    omega)]
  have l1 : lg_cmp ((nI x).toInt64 + (nI k).toInt64) (nI (tl j)).toInt64 < 0 ↔ x + k < tl j := by
    rw [lgc_lt, pk64 hx (by omega), Int32.toInt_toInt64, nI_toInt (by omega)]
    omega
  by_cases c5 : x + k < tl j
  · rw [if_pos ((lm_lt hx h3 (by omega)).mpr c5), if_pos (l1.mpr c5), pk64n (by omega), h6 (x + k) (by omega), hp]
    by_cases c6 : lg_cmp (it (60 * j + (x + k))) (w.2.2.2.2.2.1 k).toInt64 = 0
    · rw [if_pos c6, if_pos c6]; rfl
    · rw [if_neg c6, if_neg c6]; rfl
  · rw [if_neg (fun q => c5 ((lm_lt hx h3 (by omega)).mp q)), if_neg (fun q => c5 (l1.mp q))]
    rfl
