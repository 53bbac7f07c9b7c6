/-! contract, renew, refer: alike -/
theorem e_contract {n lo : Nat} {kind limit ret quo refers : Nat → Int32} {q1 q2 q3 : Nat} {a1 b1 a2 b2 a3 b3 s : Nat → Int32} (h : TD n lo kind limit ret quo refers q1 q2 q3 a1 b1 a2 b2 a3 b3 s) (k l r : Int32) : (f_X6_contract kind limit ret quo refers k l r n).1 = (f_X7_contract s k l r n).1 ∧ TD (f_X6_contract kind limit ret quo refers k l r n).2.2.2.2.2.2 lo (f_X6_contract kind limit ret quo refers k l r n).2.1 (f_X6_contract kind limit ret quo refers k l r n).2.2.1 (f_X6_contract kind limit ret quo refers k l r n).2.2.2.1 (f_X6_contract kind limit ret quo refers k l r n).2.2.2.2.1 (f_X6_contract kind limit ret quo refers k l r n).2.2.2.2.2.1 q1 q2 q3 a1 b1 a2 b2 a3 b3 (f_X7_contract s k l r n).2 := by
  have h0 := h
  obtain ⟨⟨hn, h1⟩, h2, h3, h4, h5, h6⟩ := h
  unfold f_X6_contract f_X3_addContract f_X7_contract
  by_cases c1 : f_X7_in k.toInt64 0 3 = 0
  · rw [if_pos (term0.mpr c1), if_pos c1]; exact ⟨rfl, h0⟩
  · rw [if_neg (fun q => c1 (term0.mp q)), if_neg c1]
    by_cases c2 : f_X7_in l.toInt64 0 99 = 0
    · rw [if_pos (term1.mpr c2), if_pos c2]; exact ⟨rfl, h0⟩
    · rw [if_neg (fun q => c2 (term1.mp q)), if_neg c2]
      by_cases c3 : f_X7_in r.toInt64 0 20 = 0
      · rw [if_pos (term2.mpr c3), if_pos c3]; exact ⟨rfl, h0⟩
      · rw [if_neg (fun q => c3 (term2.mp q)), if_neg c3]
        by_cases c4 : n = 6
        · rw [if_neg (show ¬ nI n < (6 : Int32) from fun q => by have := (nI_ltI (a := n) (b := 6) (by omega) (by omega)).mp q; omega), if_pos (show nI n = (6 : Int32) by rw [c4]; rfl)]
          exact ⟨rfl, h0⟩
        · rw [if_pos (show nI n < (6 : Int32) from (nI_ltI (a := n) (b := 6) (by omega) (by omega)).mpr (by omega)), if_neg (show ¬ nI n = (6 : Int32) from fun q => c4 ((nI_eq (a := n) (b := 6) (by omega) (by omega)).mp q))]
          dsimp only
          refine ⟨nI_pred n, ⟨by omega, fun c hc => ?_⟩, fun c hc => ?_, ?_, ?_, h5, ?_⟩
          · by_cases e : c = n
            · subst e
              rw [pk_us, pk_us, pk_us, pk_us, pk_us]
              exact ⟨in_nat (B := 3) (by omega) (by decide) (by decide) c1, in_nat (B := 99) (by omega) (by decide) (by decide) c2, in_nat (B := 20) (by omega) (by decide) (by decide) c3, ⟨100, by omega, rfl⟩, b_0 c, fun i _ => b_0 i⟩
            · rw [pk_un e, pk_un e, pk_un e, pk_un e, pk_un e]
              exact h1 c (by omega)
          · by_cases e : c = n
            · subst e
              rw [pk_us, pk_us, pk_us, pk_us, pk_us]
              refine ⟨?_, ?_, ?_, ?_, ?_⟩
              · rw [pk_un (by omega), pk_un (by omega), pk_un (by omega), pk_un (by omega), pk_un (by omega), pk_us]
              · rw [pk_un (by omega), pk_un (by omega), pk_un (by omega), pk_un (by omega), pk_us]
              · rw [pk_un (by omega), pk_un (by omega), pk_un (by omega), pk_us]
              · rw [pk_un (by omega), pk_un (by omega), pk_us]
              · rw [pk_un (by omega), pk_us]
            · obtain ⟨g1, g2, g3, g4, g5⟩ := h2 c (by omega)
              rw [pk_un e, pk_un e, pk_un e, pk_un e, pk_un e]
              refine ⟨?_, ?_, ?_, ?_, ?_⟩ <;> rw [pk_un (by omega), pk_un (by omega), pk_un (by omega), pk_un (by omega), pk_un (by omega), pk_un (by omega)] <;> assumption
          · rw [pk_us, pk_un (by omega), pk_un (by omega), pk_un (by omega), pk_un (by omega), pk_un (by omega), h3, nI_1]
          · rw [pk_un (by omega), pk_un (by omega), pk_un (by omega), pk_un (by omega), pk_un (by omega), pk_un (by omega), h4]
          · exact RW3_keep (show n ≤ n + 1 by omega) (fun j hj hj2 => by rw [pk_un (by omega), pk_un (by omega), pk_un (by omega), pk_un (by omega), pk_un (by omega), pk_un (by omega)]) h6
theorem e_refer {n lo : Nat} {kind limit ret quo refers : Nat → Int32} {q1 q2 q3 : Nat} {a1 b1 a2 b2 a3 b3 s : Nat → Int32} (h : TD n lo kind limit ret quo refers q1 q2 q3 a1 b1 a2 b2 a3 b3 s) (a b so : Int32) : (f_X6_refer refers a b so n).1 = (f_X7_refer s a b so n).1 ∧ TD n lo kind limit ret quo (f_X6_refer refers a b so n).2 q1 q2 q3 a1 b1 a2 b2 a3 b3 (f_X7_refer s a b so n).2 := by
  have h0 := h
  obtain ⟨⟨hn, h1⟩, h2, h3, h4, h5, h6⟩ := h
  unfold f_X6_refer f_X3_link f_X7_refer
  by_cases c1 : f_X7_isOne a n = 0
  · rw [if_pos ((one_iff (by omega)).mpr c1), if_pos c1]; exact ⟨rfl, h0⟩
  · rw [if_neg (fun q => c1 ((one_iff (by omega)).mp q)), if_neg c1]
    by_cases c2 : f_X7_isOne b n = 0
    · rw [if_pos ((one_iff (by omega)).mpr c2), if_pos c2]; exact ⟨rfl, h0⟩
    · rw [if_neg (fun q => c2 ((one_iff (by omega)).mp q)), if_neg c2]
      obtain ⟨i, hi, rfl⟩ := (isO_iff (by omega)).mp c1
      obtain ⟨j, hj, rfl⟩ := (isO_iff (by omega)).mp c2
      rw [nI_clamp (by omega), nI_clamp (by omega)]
      by_cases c3 : nI i = nI j
      · rw [if_pos c3, if_pos c3]; exact ⟨rfl, h0⟩
      · rw [if_neg c3, if_neg c3]
        have hij : i ≠ j := fun q => c3 (by rw [q])
        have hs : s (29 + i) = refers i := (h2 i hi).2.2.2.2
        rw [hs]
        -- the new row, and what it was
        have was : ∀ x : Int32, (if f_X6_has (refers i) (nI j) = 0 then (0 : Int32) else 1) = (refers i >>> (nI j &&& 31)) &&& 1 := by
          intro _
          by_cases w : bt (refers i) j = true
          · rw [if_neg (fun q => by rw [(has6_0 (show j < 32 by omega)).mp q] at w; cases w)]
            exact ((and1_1 _).mpr (by rw [shr0 (by omega)]; exact w)).symm
          · have w0 : bt (refers i) j = false := by cases q : bt (refers i) j <;> first | rfl | exact absurd q w
            rw [if_pos ((has6_0 (show j < 32 by omega)).mpr w0)]
            exact ((and1_0 _).mpr (by rw [shr0 (by omega)]; exact w0)).symm
        have key : ∀ v : Int32, (bt v i = false) → (∀ t, 6 ≤ t → bt v t = false) → TD n lo kind limit ret quo (upd refers i v) q1 q2 q3 a1 b1 a2 b2 a3 b3 (upd s (29 + i) v) := by
          intro v v1 v2
          refine ⟨⟨hn, fun c hc => ?_⟩, fun c hc => ?_, (pk_un (by omega)).trans h3, (pk_un (by omega)).trans h4, h5, RW3_keep (Nat.le_refl n) (fun t ht ht2 => pk_un (by omega)) h6⟩
          · obtain ⟨g1, g2, g3, g4, g5, g6⟩ := h1 c hc
            by_cases e : c = i
            · subst e; rw [pk_us]; exact ⟨g1, g2, g3, g4, v1, v2⟩
            · rw [pk_un e]; exact ⟨g1, g2, g3, g4, g5, g6⟩
          · obtain ⟨g1, g2, g3, g4, g5⟩ := h2 c hc
            refine ⟨(pk_un (by omega)).trans g1, (pk_un (by omega)).trans g2, (pk_un (by omega)).trans g3, (pk_un (by omega)).trans g4, ?_⟩
            by_cases e : c = i
            · subst e; rw [pk_us, pk_us]
            · rw [pk_un e, pk_un (by omega)]; exact g5
        obtain ⟨-, -, -, -, r5, r6⟩ := h1 i hi
        have kA : ∀ t, t < 32 → bt ((refers i) &&& (((1 : Int32) <<< (nI j &&& 31)) ^^^ (-1 : Int32))) t = (bt (refers i) t && !decide (t = j)) := fun t ht => by
          rw [b_and, b_xor, b_m1 t ht, b_one (by omega) ht, Bool.xor_true]
        have kO : ∀ t, t < 32 → bt ((refers i) ||| ((1 : Int32) <<< (nI j &&& 31))) t = (bt (refers i) t || decide (t = j)) := fun t ht => by
          rw [b_or, b_one (by omega) ht]
        have tA := key ((refers i) &&& (((1 : Int32) <<< (nI j &&& 31)) ^^^ (-1 : Int32))) (by rw [b_and, r5, Bool.false_and]) (fun t ht => by rw [b_and, r6 t ht, Bool.false_and])
        have tO := key ((refers i) ||| ((1 : Int32) <<< (nI j &&& 31))) (by rw [kO i (by omega), r5, decide_eq_false hij]; rfl) (fun t ht => by
          by_cases w : t < 32
          · rw [kO t w, r6 t ht, decide_eq_false (by omega)]; rfl
          · exact b_big (by omega))
        have e1 : ((refers i) &&& (((1 : Int32) <<< (nI j &&& 31)) ^^^ (-1 : Int32))) ||| (0 : Int32) = (refers i) &&& (((1 : Int32) <<< (nI j &&& 31)) ^^^ (-1 : Int32)) := b_ext (fun t _ => by rw [b_or, b_0, Bool.or_false])
        have e2 : ((refers i) &&& (((1 : Int32) <<< (nI j &&& 31)) ^^^ (-1 : Int32))) ||| ((1 : Int32) <<< (nI j &&& 31)) = (refers i) ||| ((1 : Int32) <<< (nI j &&& 31)) := b_ext (fun t ht => by
          rw [b_or, kA t ht, kO t ht, b_one (by omega) ht]
          cases bt (refers i) t <;> cases decide (t = j) <;> rfl)
        rw [e1, e2, ← was 0]
        by_cases c4 : f_X6_has (refers i) (nI j) = 0
        · rw [if_pos c4, if_pos c4]
          by_cases c5 : so = 0
          · rw [if_pos c5, if_pos c5]; exact ⟨rfl, tA⟩
          · rw [if_neg c5, if_neg c5]; exact ⟨rfl, tO⟩
        · rw [if_neg c4, if_neg c4]
          by_cases c5 : so = 0
          · rw [if_pos c5, if_pos c5]; exact ⟨rfl, tA⟩
          · rw [if_neg c5, if_neg c5]; exact ⟨rfl, tO⟩
