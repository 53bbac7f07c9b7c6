theorem clause_I2 {t : Nat → Int32} {w : Int32} {a b c d : Nat → Int32} {ln pt cl : Nat} {u : Nat × Int32 × Nat × (Nat → Int32) × (Nat → Int32) × (Nat → Int32) × (Nat → Int32)} (hw : u = f_X7_clause t w a b c d ln pt cl) (hp : pt ≤ ln) (hl : ln ≤ 100) (hc : cl ≤ 12) : u.1 ≤ ln ∧ u.2.2.1 ≤ 12 := by
  have h9 := clause_I (t := t) (w := w) (a := a) (b := b) (c := c) (d := d) hp hl hc
  rw [hw]
  exact ⟨h9.1, h9.2.1⟩
def bd_X7_read_112 (zx19 : Nat × Int32 × Nat × (Nat → Int32) × (Nat → Int32) × (Nat → Int32) × (Nat → Int32)) (k112 : Nat) (z112 : Int32 × (Nat → Int32)) : Int32 × (Nat → Int32) :=
  if (f_X7_isDone z112.2 zx19.2.2.2.1 zx19.2.2.2.2.1 zx19.2.2.2.2.2.1 zx19.2.2.2.2.2.2 ((z112.2 0).toNatClampNeg) k112).1 = (0 : Int32) then (z112.1, (f_X7_isDone z112.2 zx19.2.2.2.1 zx19.2.2.2.2.1 zx19.2.2.2.2.2.1 zx19.2.2.2.2.2.2 ((z112.2 0).toNatClampNeg) k112).2) else ((z112.1 + (1 : Int32)), (f_X7_isDone z112.2 zx19.2.2.2.1 zx19.2.2.2.2.1 zx19.2.2.2.2.2.1 zx19.2.2.2.2.2.2 ((z112.2 0).toNatClampNeg) k112).2)
def bd_X7_read_19 (om_text : Nat → Int32) (ln : Nat) (z19 : Nat × Int32 × Nat × (Nat → Int32) × (Nat → Int32) × (Nat → Int32) × (Nat → Int32)) : (Nat × Int32 × Nat × (Nat → Int32) × (Nat → Int32) × (Nat → Int32) × (Nat → Int32)) ⊕ (Nat × Int32 × Nat × (Nat → Int32) × (Nat → Int32) × (Nat → Int32) × (Nat → Int32)) :=
  if z19.2.1 = (0 : Int32) then (if (f_X7_here om_text ln z19.1) = (59 : Int32) then (if (12 : Int32) ≤ nI z19.2.2.1 then (.inr z19) else (.inl (f_X7_clause om_text z19.2.1 z19.2.2.2.1 z19.2.2.2.2.1 z19.2.2.2.2.2.1 z19.2.2.2.2.2.2 ln (z19.1 + 1) z19.2.2.1))) else (.inr z19)) else (.inr z19)
def f_X7_read (om_s : Nat → Int32) (om_text : Nat → Int32) (om_letters : Nat → Int32) (om_one : Nat → Int32) (om_two : Nat → Int32) (om_three : Nat → Int32) (ln : Nat) : Int32 × (Nat → Int32) × Nat × Nat × Int32 × Nat × (Nat → Int32) × (Nat → Int32) × (Nat → Int32) × (Nat → Int32) :=
  if ((wl (bd_X7_read_19 om_text ln) 14 (f_X7_clause om_text (0 : Int32) om_letters om_one om_two om_three ln 0 0)).getD (f_X7_clause om_text (0 : Int32) om_letters om_one om_two om_three ln 0 0)).2.1 = (0 : Int32) then (if nI ln ≤ nI ((wl (bd_X7_read_19 om_text ln) 14 (f_X7_clause om_text (0 : Int32) om_letters om_one om_two om_three ln 0 0)).getD (f_X7_clause om_text (0 : Int32) om_letters om_one om_two om_three ln 0 0)).1 then ((itr (bd_X7_read_112 ((wl (bd_X7_read_19 om_text ln) 14 (f_X7_clause om_text (0 : Int32) om_letters om_one om_two om_three ln 0 0)).getD (f_X7_clause om_text (0 : Int32) om_letters om_one om_two om_three ln 0 0))) (((wl (bd_X7_read_19 om_text ln) 14 (f_X7_clause om_text (0 : Int32) om_letters om_one om_two om_three ln 0 0)).getD (f_X7_clause om_text (0 : Int32) om_letters om_one om_two om_three ln 0 0)).2.2.1) ((0 : Int32), om_s)).1, ((itr (bd_X7_read_112 ((wl (bd_X7_read_19 om_text ln) 14 (f_X7_clause om_text (0 : Int32) om_letters om_one om_two om_three ln 0 0)).getD (f_X7_clause om_text (0 : Int32) om_letters om_one om_two om_three ln 0 0))) (((wl (bd_X7_read_19 om_text ln) 14 (f_X7_clause om_text (0 : Int32) om_letters om_one om_two om_three ln 0 0)).getD (f_X7_clause om_text (0 : Int32) om_letters om_one om_two om_three ln 0 0)).2.2.1) ((0 : Int32), om_s)).2, 0, ((wl (bd_X7_read_19 om_text ln) 14 (f_X7_clause om_text (0 : Int32) om_letters om_one om_two om_three ln 0 0)).getD (f_X7_clause om_text (0 : Int32) om_letters om_one om_two om_three ln 0 0)).1, (0 : Int32), ((wl (bd_X7_read_19 om_text ln) 14 (f_X7_clause om_text (0 : Int32) om_letters om_one om_two om_three ln 0 0)).getD (f_X7_clause om_text (0 : Int32) om_letters om_one om_two om_three ln 0 0)).2.2.1, ((wl (bd_X7_read_19 om_text ln) 14 (f_X7_clause om_text (0 : Int32) om_letters om_one om_two om_three ln 0 0)).getD (f_X7_clause om_text (0 : Int32) om_letters om_one om_two om_three ln 0 0)).2.2.2.1, ((wl (bd_X7_read_19 om_text ln) 14 (f_X7_clause om_text (0 : Int32) om_letters om_one om_two om_three ln 0 0)).getD (f_X7_clause om_text (0 : Int32) om_letters om_one om_two om_three ln 0 0)).2.2.2.2.1, ((wl (bd_X7_read_19 om_text ln) 14 (f_X7_clause om_text (0 : Int32) om_letters om_one om_two om_three ln 0 0)).getD (f_X7_clause om_text (0 : Int32) om_letters om_one om_two om_three ln 0 0)).2.2.2.2.2.1, ((wl (bd_X7_read_19 om_text ln) 14 (f_X7_clause om_text (0 : Int32) om_letters om_one om_two om_three ln 0 0)).getD (f_X7_clause om_text (0 : Int32) om_letters om_one om_two om_three ln 0 0)).2.2.2.2.2.2)) else (((-10 : Int32) - nI ((wl (bd_X7_read_19 om_text ln) 14 (f_X7_clause om_text (0 : Int32) om_letters om_one om_two om_three ln 0 0)).getD (f_X7_clause om_text (0 : Int32) om_letters om_one om_two om_three ln 0 0)).1), (om_s, 0, ((wl (bd_X7_read_19 om_text ln) 14 (f_X7_clause om_text (0 : Int32) om_letters om_one om_two om_three ln 0 0)).getD (f_X7_clause om_text (0 : Int32) om_letters om_one om_two om_three ln 0 0)).1, (1 : Int32), ((wl (bd_X7_read_19 om_text ln) 14 (f_X7_clause om_text (0 : Int32) om_letters om_one om_two om_three ln 0 0)).getD (f_X7_clause om_text (0 : Int32) om_letters om_one om_two om_three ln 0 0)).2.2.1, ((wl (bd_X7_read_19 om_text ln) 14 (f_X7_clause om_text (0 : Int32) om_letters om_one om_two om_three ln 0 0)).getD (f_X7_clause om_text (0 : Int32) om_letters om_one om_two om_three ln 0 0)).2.2.2.1, ((wl (bd_X7_read_19 om_text ln) 14 (f_X7_clause om_text (0 : Int32) om_letters om_one om_two om_three ln 0 0)).getD (f_X7_clause om_text (0 : Int32) om_letters om_one om_two om_three ln 0 0)).2.2.2.2.1, ((wl (bd_X7_read_19 om_text ln) 14 (f_X7_clause om_text (0 : Int32) om_letters om_one om_two om_three ln 0 0)).getD (f_X7_clause om_text (0 : Int32) om_letters om_one om_two om_three ln 0 0)).2.2.2.2.2.1, ((wl (bd_X7_read_19 om_text ln) 14 (f_X7_clause om_text (0 : Int32) om_letters om_one om_two om_three ln 0 0)).getD (f_X7_clause om_text (0 : Int32) om_letters om_one om_two om_three ln 0 0)).2.2.2.2.2.2))) else (((-10 : Int32) - nI ((wl (bd_X7_read_19 om_text ln) 14 (f_X7_clause om_text (0 : Int32) om_letters om_one om_two om_three ln 0 0)).getD (f_X7_clause om_text (0 : Int32) om_letters om_one om_two om_three ln 0 0)).1), (om_s, 0, ((wl (bd_X7_read_19 om_text ln) 14 (f_X7_clause om_text (0 : Int32) om_letters om_one om_two om_three ln 0 0)).getD (f_X7_clause om_text (0 : Int32) om_letters om_one om_two om_three ln 0 0)).1, (1 : Int32), ((wl (bd_X7_read_19 om_text ln) 14 (f_X7_clause om_text (0 : Int32) om_letters om_one om_two om_three ln 0 0)).getD (f_X7_clause om_text (0 : Int32) om_letters om_one om_two om_three ln 0 0)).2.2.1, ((wl (bd_X7_read_19 om_text ln) 14 (f_X7_clause om_text (0 : Int32) om_letters om_one om_two om_three ln 0 0)).getD (f_X7_clause om_text (0 : Int32) om_letters om_one om_two om_three ln 0 0)).2.2.2.1, ((wl (bd_X7_read_19 om_text ln) 14 (f_X7_clause om_text (0 : Int32) om_letters om_one om_two om_three ln 0 0)).getD (f_X7_clause om_text (0 : Int32) om_letters om_one om_two om_three ln 0 0)).2.2.2.2.1, ((wl (bd_X7_read_19 om_text ln) 14 (f_X7_clause om_text (0 : Int32) om_letters om_one om_two om_three ln 0 0)).getD (f_X7_clause om_text (0 : Int32) om_letters om_one om_two om_three ln 0 0)).2.2.2.2.2.1, ((wl (bd_X7_read_19 om_text ln) 14 (f_X7_clause om_text (0 : Int32) om_letters om_one om_two om_three ln 0 0)).getD (f_X7_clause om_text (0 : Int32) om_letters om_one om_two om_three ln 0 0)).2.2.2.2.2.2))
theorem read7_some {t : Nat → Int32} {ln : Nat} (hl : ln ≤ 100) : ∀ (d : Nat) (z : Nat × Int32 × Nat × (Nat → Int32) × (Nat → Int32) × (Nat → Int32) × (Nat → Int32)), z.1 ≤ ln → z.2.2.1 ≤ 12 → (12 - z.2.2.1) + 2 ≤ d ∨ (¬ z.2.1 = 0 ∧ 1 ≤ d) → (wl (bd_X7_read_19 t ln) d z).isSome = true
  | 0, z, _, h2, h => by rcases h with h | ⟨_, h⟩ <;> omega
  | d + 1, z, h1, h2, h => by
    cases hb : bd_X7_read_19 t ln z with
    | inr y => rw [wl_inr hb]; rfl
    | inl y =>
      rw [wl_inl hb]
      unfold bd_X7_read_19 at hb
      by_cases c1 : z.2.1 = 0
      · rw [if_pos c1] at hb
        by_cases c2 : f_X7_here t ln z.1 = 59
        · rw [if_pos c2] at hb
          by_cases c3 : (12 : Int32) ≤ nI z.2.2.1
          · rw [if_pos c3] at hb; cases hb
          · rw [if_neg c3] at hb
            cases hb
            have g1 : z.1 + 1 ≤ ln := here_eq hl h1 (by decide) c2
            obtain ⟨k1, k2, k3⟩ := clause_I (t := t) (w := z.2.1) (a := z.2.2.2.1) (b := z.2.2.2.2.1) (c := z.2.2.2.2.2.1) (d := z.2.2.2.2.2.2) (pt := z.1 + 1) (cl := z.2.2.1) g1 hl h2
            refine read7_some hl d _ k1 k2 ?_
            rcases h with h | ⟨h, _⟩
            · rcases k3 with k | k
              · exact Or.inr ⟨k, by omega⟩
              · exact Or.inl (by rw [k]; omega)
            · exact absurd c1 h
        · rw [if_neg c2] at hb; cases hb
      · rw [if_neg c1] at hb; cases hb
theorem read7_in {u : Nat × Int32 × Nat × (Nat → Int32) × (Nat → Int32) × (Nat → Int32) × (Nat → Int32)} : ∀ (k : Nat) (z : Int32 × (Nat → Int32)), (z.2 0 = nI (z.2 0).toNatClampNeg ∧ (z.2 0).toNatClampNeg ≤ 6) → (itr (bd_X7_read_112 u) k z).2 0 = nI ((itr (bd_X7_read_112 u) k z).2 0).toNatClampNeg ∧ ((itr (bd_X7_read_112 u) k z).2 0).toNatClampNeg ≤ 6
  | 0, z, h => h
  | k + 1, z, h => by
    have ih := read7_in (u := u) k z h
    rw [itr_succ]
    generalize itr (bd_X7_read_112 u) k z = y at ih ⊢
    unfold bd_X7_read_112
    refine iteP (P := fun x : Int32 × (Nat → Int32) => x.2 0 = nI (x.2 0).toNatClampNeg ∧ (x.2 0).toNatClampNeg ≤ 6) (fun _ => ?_) (fun _ => ?_)
    · dsimp only; exact done_s0 ih.1 ih.2
    · dsimp only; exact done_s0 ih.1 ih.2

set_option maxHeartbeats 4000000 in
set_option maxRecDepth 100000 in
theorem c_X7_read (l : Launch) (D : va_G) (cy : Nat → ClassId) (om : Nat → Nat) (om_thrown : Int32) (om_s : Nat → Int32) (om_kept : Nat → Int32) (om_aside : Nat → Int32) (om_isKept : Int32) (om_reaches : Nat → Int32) (om_ringOf : Nat → Int32) (om_rungOf : Nat → Int32) (om_rings : Nat → Int32) (om_ringMany : Int32) (om_paid : Nat → Int32) (om_leftOf : Nat → Int32) (om_ringPaid : Nat → Int32) (om_paidAll : Int32) (om_mosts : Nat → Int32) (om_text : Nat → Int32) (om_at : Int32) (om_isWrong : Int32) (om_clauses : Int32) (om_letters : Nat → Int32) (om_one : Nat → Int32) (om_two : Nat → Int32) (om_three : Nat → Int32) (om_whys : Nat → Int32) (om_backs : Nat → Int32) (om_sorts : Nat → Int32) (om_sizes : Nat → Int32) (om_items : Nat → Int64) (n : Nat) (ln : Nat) (hn : n ≤ 6) (hs0 : om_s 0 = nI n) (hln : ln ≤ 100) : RwI (S := (Nat → Int32) × Nat × Nat × Int32 × Nat × (Nat → Int32) × (Nat → Int32) × (Nat → Int32) × (Nat → Int32)) l D cy yX7_read (.code yX7_read cX7_read 3 (some .int)) 4 (wX7 cy om om_thrown om_s om_kept om_aside om_isKept om_reaches om_ringOf om_rungOf om_rings om_ringMany om_paid om_leftOf om_ringPaid om_paidAll om_mosts om_text (nI ln) om_at om_isWrong om_clauses om_letters om_one om_two om_three om_whys om_backs om_sorts om_sizes om_items) [.ref (om 0)] (fun rr u => (rr, u) = f_X7_read om_s om_text om_letters om_one om_two om_three ln) (fun u => wX7 cy om om_thrown u.1 om_kept om_aside om_isKept om_reaches om_ringOf om_rungOf om_rings om_ringMany om_paid om_leftOf om_ringPaid om_paidAll om_mosts om_text (nI u.2.1) (nI u.2.2.1) u.2.2.2.1 (nI u.2.2.2.2.1) u.2.2.2.2.2.1 u.2.2.2.2.2.2.1 u.2.2.2.2.2.2.2.1 u.2.2.2.2.2.2.2.2 om_whys om_backs om_sorts om_sizes om_items) := by
  intro sz
  refine Met.ofW (cc := cX7_read) (maxL := 3) (ret := (some .int)) (by decide) rfl ?_
  intro pP eE s0 mM args below meth cC s₁ B hml hv
  obtain ⟨rfl, hsz, hP, hKX, hD0⟩ := hv
  have hx := B.exec
  have hb := B.bytes
  have hr := B.returns
  have hG := gw_hts (atoms_spec (ws := _) B.pre)
  have hown : s0.vm.findClass RX7 = some mM.cls := findClass_of_methodNamed B.named
  have hlocks := B.notSynchronized
  subst hsz
  have hD := hD0.self (sz := s0.heap.size)
  generalize hAe : va_A (wX7 cy om om_thrown om_s om_kept om_aside om_isKept om_reaches om_ringOf om_rungOf om_rings om_ringMany om_paid om_leftOf om_ringPaid om_paidAll om_mosts om_text (nI ln) om_at om_isWrong om_clauses om_letters om_one om_two om_three om_whys om_backs om_sorts om_sizes om_items) s0.heap.size = A at hD ⊢
  have hA : ∀ q : Nat, s0.heap.size ≤ q → A q := fun q h => by rw [← hAe]; exact Or.inr h
  have hS : va_S A s0.heap s0.heap [] := va_S.rf
  have hl := lv_entry ([.ref (om 0)]) (n := 3) (Nat.le_of_ble_eq_true rfl)
  rw [lg_entry_eq]
  generalize (lg_sl ([.ref (om 0)]) ++ List.replicate (3 - (lg_sl ([.ref (om 0)])).length) Slot.unset).toArray = ls at hl ⊢
  have hl : lv_has ls 3 [(0, .ref (om 0))] := hl
  refine lv_aload_n hx hb dX7_read_0 rfl (lv_at hl 0 rfl) ?_
  refine lv_iconst (v := (0 : Int32)) hx hb dX7_read_1 (by decide) ?_
  refine pf_X7_159 hx hb hG hown hKX hP hD hS 0 rfl rfl rfl (Nat.le_of_ble_eq_true rfl) dX7_read_2 (wn := wX7 cy om om_thrown om_s om_kept om_aside om_isKept om_reaches om_ringOf om_rungOf om_rings om_ringMany om_paid om_leftOf om_ringPaid om_paidAll om_mosts om_text (nI ln) (nI 0) om_isWrong om_clauses om_letters om_one om_two om_three om_whys om_backs om_sorts om_sizes om_items) rfl (fun H locs hP hD hS => ?_)
  refine lv_aload_n hx hb dX7_read_5 rfl (lv_at hl 0 rfl) ?_
  refine lv_iconst (v := (0 : Int32)) hx hb dX7_read_6 (by decide) ?_
  refine pf_X7_162 hx hb hG hown hKX hP hD hS 0 rfl rfl rfl (Nat.le_of_ble_eq_true rfl) dX7_read_7 (wn := wX7 cy om om_thrown om_s om_kept om_aside om_isKept om_reaches om_ringOf om_rungOf om_rings om_ringMany om_paid om_leftOf om_ringPaid om_paidAll om_mosts om_text (nI ln) (nI 0) (0 : Int32) om_clauses om_letters om_one om_two om_three om_whys om_backs om_sorts om_sizes om_items) rfl (fun H locs hP hD hS => ?_)
  refine lv_aload_n hx hb dX7_read_10 rfl (lv_at hl 0 rfl) ?_
  refine lv_iconst (v := (0 : Int32)) hx hb dX7_read_11 (by decide) ?_
  refine pf_X7_174 hx hb hG hown hKX hP hD hS 0 rfl rfl rfl (Nat.le_of_ble_eq_true rfl) dX7_read_12 (wn := wX7 cy om om_thrown om_s om_kept om_aside om_isKept om_reaches om_ringOf om_rungOf om_rings om_ringMany om_paid om_leftOf om_ringPaid om_paidAll om_mosts om_text (nI ln) (nI 0) (0 : Int32) (nI 0) om_letters om_one om_two om_three om_whys om_backs om_sorts om_sizes om_items) rfl (fun H locs hP hD hS => ?_)
  refine lv_aload_n hx hb dX7_read_15 rfl (lv_at hl 0 rfl) ?_
  refine cRwVV (q0 := 0) (ci := 7) mw19_2 mw19_3 mw19_4 mw1_5 mw19_5 rfl rfl hd_X7_clause hx hb hml hown hG hKX (c_X7_clause l D cy om om_thrown om_s om_kept om_aside om_isKept om_reaches om_ringOf om_rungOf om_rings om_ringMany om_paid om_leftOf om_ringPaid om_paidAll om_mosts om_text (0 : Int32) om_letters om_one om_two om_three om_whys om_backs om_sorts om_sizes om_items ln 0 0 hln (by omega) (by omega)) ⟨Nat.le_of_ble_eq_true rfl, Nat.le_of_ble_eq_true rfl⟩ ⟨Nat.zero_le _, Nat.zero_le _⟩ hP hD hS hA [0, 1, 2, 3, 4, 5, 6, 7, 8, 9, 10, 11, 12, 13, 14, 15, 16, 17, 18, 19, 20, 21] [] [0, 1, 2, 3, 4, 5, 6, 7, 8, 9, 10, 11, 12, 13, 14, 15, 16, 17, 18, 19, 20, 21] (wr := []) (wn := fun u16 => wX7 cy om om_thrown om_s om_kept om_aside om_isKept om_reaches om_ringOf om_rungOf om_rings om_ringMany om_paid om_leftOf om_ringPaid om_paidAll om_mosts om_text (nI ln) (nI u16.1) u16.2.1 (nI u16.2.2.1) u16.2.2.2.1 u16.2.2.2.2.1 u16.2.2.2.2.2.1 u16.2.2.2.2.2.2 om_whys om_backs om_sorts om_sizes om_items) rfl (by decide) rfl (by decide) (by decide) (fun _ => rfl) (by decide) rfl rfl hl.1 rfl (Nat.le_of_ble_eq_true rfl) dX7_read_16 (fun u16 H locs hw16 hP hD hS => ?_)
  have hIu16 : u16.1 ≤ ln ∧ u16.2.2.1 ≤ 12 := clause_I2 hw16 (by omega) hln (by omega)
  refine loopWhI (pcX := 61) (bd_X7_read_19 om_text ln) 14 u16 ((wl (bd_X7_read_19 om_text ln) 14 u16).getD u16) (wl_some (read7_some hln _ _ hIu16.1 hIu16.2 (Or.inl (by omega)))) (fun z : Nat × Int32 × Nat × (Nat → Int32) × (Nat → Int32) × (Nat → Int32) × (Nat → Int32) => z.1 ≤ ln ∧ z.2.2.1 ≤ 12) hIu16 (fun z19 => [(0, .ref (om 0))]) (fun z19 => wX7 cy om om_thrown om_s om_kept om_aside om_isKept om_reaches om_ringOf om_rungOf om_rings om_ringMany om_paid om_leftOf om_ringPaid om_paidAll om_mosts om_text (nI ln) (nI z19.1) z19.2.1 (nI z19.2.2.1) z19.2.2.2.1 z19.2.2.2.2.1 z19.2.2.2.2.2.1 z19.2.2.2.2.2.2 om_whys om_backs om_sorts om_sizes om_items) (fun z19 => [(0, .ref (om 0))]) hP hD hS (lv_sub hl [0] rfl) (fun zx19 H locs ls hzx19 hI19 hP hD hS hl => ?_) (fun z19 H locs ls hI19 hP hD hS hl ih19 br19 => ?_)
  · refine lv_aload_n hx hb dX7_read_61 rfl (lv_at hl 0 rfl) ?_
    refine lv_aload_n hx hb dX7_read_62 rfl (lv_at hl 0 rfl) ?_
    refine gf_X7_162 hx hb hG hown hKX hP 0 rfl rfl dX7_read_63 ?_
    refine lv_if_ne (tgt := 80) hx hb dX7_read_66 (by decide) (fun c1 => ?_) (fun c1 => ?_)
    · refine lv_iconst (v := (1 : Int32)) hx hb dX7_read_80 (by decide) ?_
      refine lv_goto (tgt := 85) hx hb dX7_read_81 (by decide) ?_
      refine pf_X7_162 hx hb hG hown hKX hP hD hS 0 rfl rfl rfl (Nat.le_of_ble_eq_true rfl) dX7_read_85 (wn := wX7 cy om om_thrown om_s om_kept om_aside om_isKept om_reaches om_ringOf om_rungOf om_rings om_ringMany om_paid om_leftOf om_ringPaid om_paidAll om_mosts om_text (nI ln) (nI zx19.1) (1 : Int32) (nI zx19.2.2.1) zx19.2.2.2.1 zx19.2.2.2.2.1 zx19.2.2.2.2.2.1 zx19.2.2.2.2.2.2 om_whys om_backs om_sorts om_sizes om_items) rfl (fun H locs hP hD hS => ?_)
      refine lv_aload_n hx hb dX7_read_88 rfl (lv_at hl 0 rfl) ?_
      refine lv_iconst (v := (0 : Int32)) hx hb dX7_read_89 (by decide) ?_
      refine pf_X7_156 hx hb hG hown hKX hP hD hS 0 rfl rfl rfl (Nat.le_of_ble_eq_true rfl) dX7_read_90 (wn := wX7 cy om om_thrown om_s om_kept om_aside om_isKept om_reaches om_ringOf om_rungOf om_rings om_ringMany om_paid om_leftOf om_ringPaid om_paidAll om_mosts om_text (0 : Int32) (nI zx19.1) (1 : Int32) (nI zx19.2.2.1) zx19.2.2.2.1 zx19.2.2.2.2.1 zx19.2.2.2.2.2.1 zx19.2.2.2.2.2.2 om_whys om_backs om_sorts om_sizes om_items) rfl (fun H locs hP hD hS => ?_)
      refine lv_aload_n hx hb dX7_read_93 rfl (lv_at hl 0 rfl) ?_
      refine gf_X7_162 hx hb hG hown hKX hP 0 rfl rfl dX7_read_94 ?_
      refine lv_if_eq (tgt := 108) hx hb dX7_read_97 (by decide) (fun c2 => absurd c2 (by decide)) (fun c2 => ?_)
      refine lv_bipush (v := (-10 : Int32)) hx hb dX7_read_100 (by decide) ?_
      refine lv_aload_n hx hb dX7_read_102 rfl (lv_at hl 0 rfl) ?_
      refine gf_X7_159 hx hb hG hown hKX hP 0 rfl rfl dX7_read_103 ?_
      refine lv_isub hx hb dX7_read_106 ?_
      exact W.iret (v := ((-10 : Int32) - nI zx19.1)) hx hb hr (fun t ht hW => ⟨⟨((-10 : Int32) - nI zx19.1), (om_s, 0, zx19.1, (1 : Int32), zx19.2.2.1, zx19.2.2.2.1, zx19.2.2.2.2.1, zx19.2.2.2.2.2.1, zx19.2.2.2.2.2.2), rfl, by subst hzx19; subst hw16; unfold f_X7_read; rw [if_neg c1] <;> rfl, by rw [ht]; exact hP, hD⟩, hS.F ht⟩) hS.2.2 dX7_read_107
    · refine lv_aload_n hx hb dX7_read_69 rfl (lv_at hl 0 rfl) ?_
      refine gf_X7_159 hx hb hG hown hKX hP 0 rfl rfl dX7_read_70 ?_
      refine lv_aload_n hx hb dX7_read_73 rfl (lv_at hl 0 rfl) ?_
      refine gf_X7_156 hx hb hG hown hKX hP 0 rfl rfl dX7_read_74 ?_
      refine lv_icmp_ge (tgt := 84) hx hb dX7_read_77 (by decide) (fun c3 => ?_) (fun c3 => ?_)
      · refine lv_iconst (v := (0 : Int32)) hx hb dX7_read_84 (by decide) ?_
        refine pf_X7_162 hx hb hG hown hKX hP hD hS 0 rfl rfl rfl (Nat.le_of_ble_eq_true rfl) dX7_read_85 (wn := wX7 cy om om_thrown om_s om_kept om_aside om_isKept om_reaches om_ringOf om_rungOf om_rings om_ringMany om_paid om_leftOf om_ringPaid om_paidAll om_mosts om_text (nI ln) (nI zx19.1) (0 : Int32) (nI zx19.2.2.1) zx19.2.2.2.1 zx19.2.2.2.2.1 zx19.2.2.2.2.2.1 zx19.2.2.2.2.2.2 om_whys om_backs om_sorts om_sizes om_items) rfl (fun H locs hP hD hS => ?_)
        refine lv_aload_n hx hb dX7_read_88 rfl (lv_at hl 0 rfl) ?_
        refine lv_iconst (v := (0 : Int32)) hx hb dX7_read_89 (by decide) ?_
        refine pf_X7_156 hx hb hG hown hKX hP hD hS 0 rfl rfl rfl (Nat.le_of_ble_eq_true rfl) dX7_read_90 (wn := wX7 cy om om_thrown om_s om_kept om_aside om_isKept om_reaches om_ringOf om_rungOf om_rings om_ringMany om_paid om_leftOf om_ringPaid om_paidAll om_mosts om_text (0 : Int32) (nI zx19.1) (0 : Int32) (nI zx19.2.2.1) zx19.2.2.2.1 zx19.2.2.2.2.1 zx19.2.2.2.2.2.1 zx19.2.2.2.2.2.2 om_whys om_backs om_sorts om_sizes om_items) rfl (fun H locs hP hD hS => ?_)
        refine lv_aload_n hx hb dX7_read_93 rfl (lv_at hl 0 rfl) ?_
        refine gf_X7_162 hx hb hG hown hKX hP 0 rfl rfl dX7_read_94 ?_
        refine lv_if_eq (tgt := 108) hx hb dX7_read_97 (by decide) (fun c4 => ?_) (fun c4 => absurd (by decide) c4)
        refine lv_iconst (v := (0 : Int32)) hx hb dX7_read_108 (by decide) ?_
        refine lv_istore_n (lv' := [(1, .int (0 : Int32)), (0, .ref (om 0))]) hx hb dX7_read_109 rfl hl (by decide) rfl (fun ls hl => ?_)
        refine lv_iconst (v := (0 : Int32)) hx hb dX7_read_110 (by decide) ?_
        refine lv_istore_n (lv' := [(2, .int (0 : Int32)), (1, .int (0 : Int32)), (0, .ref (om 0))]) hx hb dX7_read_111 rfl hl (by decide) rfl (fun ls hl => ?_)
        refine loopW (bd_X7_read_112 zx19) ((0 : Int32), om_s) zx19.2.2.1 (fun k112 z112 => [(2, .int (nI k112)), (1, .int z112.1), (0, .ref (om 0))]) (fun k112 z112 => wX7 cy om om_thrown z112.2 om_kept om_aside om_isKept om_reaches om_ringOf om_rungOf om_rings om_ringMany om_paid om_leftOf om_ringPaid om_paidAll om_mosts om_text (0 : Int32) (nI zx19.1) (0 : Int32) (nI zx19.2.2.1) zx19.2.2.2.1 zx19.2.2.2.2.1 zx19.2.2.2.2.2.1 zx19.2.2.2.2.2.2 om_whys om_backs om_sorts om_sizes om_items) hP hD hS (lv_sub hl [0, 1, 2] rfl) (fun k112 z112 H locs ls hk112 hz112 hP hD hS hl ih112 => ?_)
        refine lv_iload_n hx hb dX7_read_112 rfl (lv_at hl 0 rfl) ?_
        refine lv_aload_n hx hb dX7_read_113 rfl (lv_at hl 2 rfl) ?_
        refine gf_X7_174 hx hb hG hown hKX hP 0 rfl rfl dX7_read_114 ?_
        refine lv_icmp_ge (tgt := 137) hx hb dX7_read_117 (by decide) (fun c5 => ?_) (fun c5 => ?_)
        · have e_k112 : zx19.2.2.1 = k112 := Nat.le_antisymm ((le_n (N := zx19.2.2.1) (k := k112) rfl (by omega) (by omega)).mp c5) hk112
          subst e_k112
          refine lv_iload_n hx hb dX7_read_137 rfl (lv_at hl 1 rfl) ?_
          exact W.iret (v := z112.1) hx hb hr (fun t ht hW => ⟨⟨z112.1, (z112.2, 0, zx19.1, (0 : Int32), zx19.2.2.1, zx19.2.2.2.1, zx19.2.2.2.2.1, zx19.2.2.2.2.2.1, zx19.2.2.2.2.2.2), rfl, by subst hz112; subst hzx19; subst hw16; unfold f_X7_read; rw [if_pos c1, if_pos c3] <;> rfl, by rw [ht]; exact hP, hD⟩, hS.F ht⟩) hS.2.2 dX7_read_138
        · have hlt112 : k112 < zx19.2.2.1 := Nat.lt_of_not_le (fun qq_ => c5 ((le_n (N := zx19.2.2.1) (k := k112) rfl (by omega) (by omega)).mpr qq_))
          have hz6 : z112.2 0 = nI (z112.2 0).toNatClampNeg ∧ (z112.2 0).toNatClampNeg ≤ 6 := by rw [hz112]; exact read7_in _ _ (s0_of hs0 hn rfl)
          refine lv_aload_n hx hb dX7_read_120 rfl (lv_at hl 2 rfl) ?_
          refine lv_iload_n hx hb dX7_read_121 rfl (lv_at hl 0 rfl) ?_
          refine cRwV (q0 := 0) (ci := 7) mw19_20 mw19_21 mw19_22 mw1_5 mw19_23 rfl rfl hd_X7_isDone hx hb hml hown hG hKX (c_X7_isDone l D cy om om_thrown z112.2 om_kept om_aside om_isKept om_reaches om_ringOf om_rungOf om_rings om_ringMany om_paid om_leftOf om_ringPaid om_paidAll om_mosts om_text (0 : Int32) (nI zx19.1) (0 : Int32) (nI zx19.2.2.1) zx19.2.2.2.1 zx19.2.2.2.2.1 zx19.2.2.2.2.2.1 zx19.2.2.2.2.2.2 om_whys om_backs om_sorts om_sizes om_items ((z112.2 0).toNatClampNeg) k112 hz6.2 hz6.1 (by have h9 := hI19.2; omega)) ⟨Nat.le_of_ble_eq_true rfl, Nat.le_of_ble_eq_true rfl⟩ ⟨Nat.zero_le _, Nat.zero_le _⟩ hP hD hS hA [0, 1, 2, 3, 4, 5, 6, 7, 8, 9, 10, 11, 12, 13, 14, 15, 16, 17, 18, 19, 20, 21] [] [0, 1, 2, 3, 4, 5, 6, 7, 8, 9, 10, 11, 12, 13, 14, 15, 16, 17, 18, 19, 20, 21] (wr := []) (wn := fun u122 => wX7 cy om om_thrown u122 om_kept om_aside om_isKept om_reaches om_ringOf om_rungOf om_rings om_ringMany om_paid om_leftOf om_ringPaid om_paidAll om_mosts om_text (0 : Int32) (nI zx19.1) (0 : Int32) (nI zx19.2.2.1) zx19.2.2.2.1 zx19.2.2.2.2.1 zx19.2.2.2.2.2.1 zx19.2.2.2.2.2.2 om_whys om_backs om_sorts om_sizes om_items) rfl (by decide) rfl (by decide) (by decide) (fun _ => rfl) (by decide) rfl rfl hl.1 rfl (Nat.le_of_ble_eq_true rfl) dX7_read_122 (fun r122 u122 H locs hw122 hP hD hS => ?_)
          refine lv_if_eq (tgt := 131) hx hb dX7_read_125 (by decide) (fun c6 => ?_) (fun c6 => ?_)
          · refine lv_iinc (v := nI (k112 + 1)) (lv' := [(2, .int (nI (k112 + 1))), (1, .int z112.1), (0, .ref (om 0))]) hx hb dX7_read_131 hl (k := 0) rfl (nI_1 _) (by decide) rfl (fun ls hl => ?_)
            refine lv_goto (tgt := 112) hx hb dX7_read_134 (by decide) ?_
            exact ih112 (z112.1, u122) _ _ _ hlt112 (by obtain rfl := congrArg Prod.fst hw122; obtain rfl := congrArg Prod.snd hw122; subst hzx19; subst hw16; unfold bd_X7_read_112; rw [if_pos c6] <;> rfl) hP hD hS (lv_sub hl [0, 1, 2] rfl)
          · refine lv_iinc (v := (z112.1 + (1 : Int32))) (lv' := [(1, .int (z112.1 + (1 : Int32))), (2, .int (nI k112)), (0, .ref (om 0))]) hx hb dX7_read_128 hl (k := 1) rfl rfl (by decide) rfl (fun ls hl => ?_)
            refine lv_iinc (v := nI (k112 + 1)) (lv' := [(2, .int (nI (k112 + 1))), (1, .int (z112.1 + (1 : Int32))), (0, .ref (om 0))]) hx hb dX7_read_131 hl (k := 1) rfl (nI_1 _) (by decide) rfl (fun ls hl => ?_)
            refine lv_goto (tgt := 112) hx hb dX7_read_134 (by decide) ?_
            exact ih112 ((z112.1 + (1 : Int32)), u122) _ _ _ hlt112 (by obtain rfl := congrArg Prod.fst hw122; obtain rfl := congrArg Prod.snd hw122; subst hzx19; subst hw16; unfold bd_X7_read_112; rw [if_neg c6] <;> rfl) hP hD hS (lv_sub hl [0, 1, 2] rfl)
      · refine lv_iconst (v := (1 : Int32)) hx hb dX7_read_80 (by decide) ?_
        refine lv_goto (tgt := 85) hx hb dX7_read_81 (by decide) ?_
        refine pf_X7_162 hx hb hG hown hKX hP hD hS 0 rfl rfl rfl (Nat.le_of_ble_eq_true rfl) dX7_read_85 (wn := wX7 cy om om_thrown om_s om_kept om_aside om_isKept om_reaches om_ringOf om_rungOf om_rings om_ringMany om_paid om_leftOf om_ringPaid om_paidAll om_mosts om_text (nI ln) (nI zx19.1) (1 : Int32) (nI zx19.2.2.1) zx19.2.2.2.1 zx19.2.2.2.2.1 zx19.2.2.2.2.2.1 zx19.2.2.2.2.2.2 om_whys om_backs om_sorts om_sizes om_items) rfl (fun H locs hP hD hS => ?_)
        refine lv_aload_n hx hb dX7_read_88 rfl (lv_at hl 0 rfl) ?_
        refine lv_iconst (v := (0 : Int32)) hx hb dX7_read_89 (by decide) ?_
        refine pf_X7_156 hx hb hG hown hKX hP hD hS 0 rfl rfl rfl (Nat.le_of_ble_eq_true rfl) dX7_read_90 (wn := wX7 cy om om_thrown om_s om_kept om_aside om_isKept om_reaches om_ringOf om_rungOf om_rings om_ringMany om_paid om_leftOf om_ringPaid om_paidAll om_mosts om_text (0 : Int32) (nI zx19.1) (1 : Int32) (nI zx19.2.2.1) zx19.2.2.2.1 zx19.2.2.2.2.1 zx19.2.2.2.2.2.1 zx19.2.2.2.2.2.2 om_whys om_backs om_sorts om_sizes om_items) rfl (fun H locs hP hD hS => ?_)
        refine lv_aload_n hx hb dX7_read_93 rfl (lv_at hl 0 rfl) ?_
        refine gf_X7_162 hx hb hG hown hKX hP 0 rfl rfl dX7_read_94 ?_
        refine lv_if_eq (tgt := 108) hx hb dX7_read_97 (by decide) (fun c7 => absurd c7 (by decide)) (fun c7 => ?_)
        refine lv_bipush (v := (-10 : Int32)) hx hb dX7_read_100 (by decide) ?_
        refine lv_aload_n hx hb dX7_read_102 rfl (lv_at hl 0 rfl) ?_
        refine gf_X7_159 hx hb hG hown hKX hP 0 rfl rfl dX7_read_103 ?_
        refine lv_isub hx hb dX7_read_106 ?_
        exact W.iret (v := ((-10 : Int32) - nI zx19.1)) hx hb hr (fun t ht hW => ⟨⟨((-10 : Int32) - nI zx19.1), (om_s, 0, zx19.1, (1 : Int32), zx19.2.2.1, zx19.2.2.2.1, zx19.2.2.2.2.1, zx19.2.2.2.2.2.1, zx19.2.2.2.2.2.2), rfl, by subst hzx19; subst hw16; unfold f_X7_read; rw [if_pos c1, if_neg c3] <;> rfl, by rw [ht]; exact hP, hD⟩, hS.F ht⟩) hS.2.2 dX7_read_107
  · refine lv_aload_n hx hb dX7_read_19 rfl (lv_at hl 0 rfl) ?_
    refine gf_X7_162 hx hb hG hown hKX hP 0 rfl rfl dX7_read_20 ?_
    refine lv_if_ne (tgt := 61) hx hb dX7_read_23 (by decide) (fun c8 => ?_) (fun c8 => ?_)
    · exact br19 z19 _ _ _  (by subst hw16; unfold bd_X7_read_19; rw [if_neg c8] <;> rfl) hI19 hP hD hS (lv_sub hl [0] rfl)
    · have hz_a := hI19.1
      have hz_b := hI19.2
      refine lv_aload_n hx hb dX7_read_26 rfl (lv_at hl 0 rfl) ?_
      refine cRoV (q0 := 0) (ci := 7) mw19_6 mw19_7 mw19_8 mw1_5 mw19_9 rfl rfl hd_X7_here hx hb hml hown hG hKX (c_X7_here l D cy om om_thrown om_s om_kept om_aside om_isKept om_reaches om_ringOf om_rungOf om_rings om_ringMany om_paid om_leftOf om_ringPaid om_paidAll om_mosts om_text z19.2.1 (nI z19.2.2.1) z19.2.2.2.1 z19.2.2.2.2.1 z19.2.2.2.2.2.1 z19.2.2.2.2.2.2 om_whys om_backs om_sorts om_sizes om_items ln z19.1 hln (by omega)) ⟨Nat.le_of_ble_eq_true rfl, Nat.le_of_ble_eq_true rfl⟩ ⟨Nat.zero_le _, Nat.zero_le _⟩ hP rfl rfl hl.1 rfl (Nat.le_of_ble_eq_true rfl) dX7_read_27 ?_
      refine lv_bipush (v := (59 : Int32)) hx hb dX7_read_30 (by decide) ?_
      refine lv_icmp_ne (tgt := 61) hx hb dX7_read_32 (by decide) (fun c9 => ?_) (fun c9 => ?_)
      · exact br19 z19 _ _ _  (by subst hw16; unfold bd_X7_read_19; rw [if_pos c8, if_neg c9] <;> rfl) hI19 hP hD hS (lv_sub hl [0] rfl)
      · refine lv_aload_n hx hb dX7_read_35 rfl (lv_at hl 0 rfl) ?_
        refine gf_X7_174 hx hb hG hown hKX hP 0 rfl rfl dX7_read_36 ?_
        refine lv_bipush (v := (12 : Int32)) hx hb dX7_read_39 (by decide) ?_
        refine lv_icmp_ge (tgt := 61) hx hb dX7_read_41 (by decide) (fun c10 => ?_) (fun c10 => ?_)
        · exact br19 z19 _ _ _  (by subst hw16; unfold bd_X7_read_19; rw [if_pos c8, if_pos c9, if_pos c10] <;> rfl) hI19 hP hD hS (lv_sub hl [0] rfl)
        · have hat11 : z19.1 < ln := here_eq hln (by omega) (by decide) c9
          refine lv_aload_n hx hb dX7_read_44 rfl (lv_at hl 0 rfl) ?_
          refine lv_dup hx hb dX7_read_45 rfl ?_
          refine gf_X7_159 hx hb hG hown hKX hP 0 rfl rfl dX7_read_46 ?_
          refine lv_iconst (v := (1 : Int32)) hx hb dX7_read_49 (by decide) ?_
          refine lv_iadd hx hb dX7_read_50 ?_
          refine topi_eq (y := nI (z19.1 + 1)) (aN rfl rfl) ?_
          refine pf_X7_159 hx hb hG hown hKX hP hD hS 0 rfl rfl rfl (Nat.le_of_ble_eq_true rfl) dX7_read_51 (wn := wX7 cy om om_thrown om_s om_kept om_aside om_isKept om_reaches om_ringOf om_rungOf om_rings om_ringMany om_paid om_leftOf om_ringPaid om_paidAll om_mosts om_text (nI ln) (nI (z19.1 + 1)) z19.2.1 (nI z19.2.2.1) z19.2.2.2.1 z19.2.2.2.2.1 z19.2.2.2.2.2.1 z19.2.2.2.2.2.2 om_whys om_backs om_sorts om_sizes om_items) rfl (fun H locs hP hD hS => ?_)
          refine lv_aload_n hx hb dX7_read_54 rfl (lv_at hl 0 rfl) ?_
          refine cRwVV (q0 := 0) (ci := 7) mw19_2 mw19_3 mw19_4 mw1_5 mw19_5 rfl rfl hd_X7_clause hx hb hml hown hG hKX (c_X7_clause l D cy om om_thrown om_s om_kept om_aside om_isKept om_reaches om_ringOf om_rungOf om_rings om_ringMany om_paid om_leftOf om_ringPaid om_paidAll om_mosts om_text z19.2.1 z19.2.2.2.1 z19.2.2.2.2.1 z19.2.2.2.2.2.1 z19.2.2.2.2.2.2 om_whys om_backs om_sorts om_sizes om_items ln (z19.1 + 1) z19.2.2.1 hln (by omega) (by omega)) ⟨Nat.le_of_ble_eq_true rfl, Nat.le_of_ble_eq_true rfl⟩ ⟨Nat.zero_le _, Nat.zero_le _⟩ hP hD hS hA [0, 1, 2, 3, 4, 5, 6, 7, 8, 9, 10, 11, 12, 13, 14, 15, 16, 17, 18, 19, 20, 21] [] [0, 1, 2, 3, 4, 5, 6, 7, 8, 9, 10, 11, 12, 13, 14, 15, 16, 17, 18, 19, 20, 21] (wr := []) (wn := fun u55 => wX7 cy om om_thrown om_s om_kept om_aside om_isKept om_reaches om_ringOf om_rungOf om_rings om_ringMany om_paid om_leftOf om_ringPaid om_paidAll om_mosts om_text (nI ln) (nI u55.1) u55.2.1 (nI u55.2.2.1) u55.2.2.2.1 u55.2.2.2.2.1 u55.2.2.2.2.2.1 u55.2.2.2.2.2.2 om_whys om_backs om_sorts om_sizes om_items) rfl (by decide) rfl (by decide) (by decide) (fun _ => rfl) (by decide) rfl rfl hl.1 rfl (Nat.le_of_ble_eq_true rfl) dX7_read_55 (fun u55 H locs hw55 hP hD hS => ?_)
          have hIu55 : u55.1 ≤ ln ∧ u55.2.2.1 ≤ 12 := clause_I2 hw55 (by omega) hln (by omega)
          refine lv_goto (tgt := 19) hx hb dX7_read_58 (by decide) ?_
          exact ih19 u55 _ _ _ (by subst hw55; subst hw16; unfold bd_X7_read_19; rw [if_pos c8, if_pos c9, if_neg c10] <;> rfl) hIu55 hP hD hS (lv_sub hl [0] rfl)
