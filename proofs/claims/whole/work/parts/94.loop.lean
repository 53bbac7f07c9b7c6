/-! the law's loop -/
theorem low5 (v : Int32) : ∃ t, t < 32 ∧ v &&& (31 : Int32) = nI t := by
  have h31 : ∀ i, i < 32 → bt (31 : Int32) i = decide (i < 5) := by decide +kernel
  have hb : ∀ i, 5 ≤ i → bt (v &&& (31 : Int32)) i = false := fun i hi => by
    rw [b_and]
    by_cases q : i < 32
    · rw [h31 i q, show decide (i < 5) = false from decide_eq_false (by omega), Bool.and_false]
    · have : bt v i = false := BitVec.getLsbD_of_ge _ _ (by omega)
      rw [this, Bool.false_and]
  obtain ⟨k, hk, e⟩ := small_of (fun i hi => hb i (by omega))
  refine ⟨k, ?_, e⟩
  rcases Nat.lt_or_ge k 32 with q | q
  · exact q
  · have t5 : ∀ k, k < 64 → 32 ≤ k → bt (nI k) 5 = true := by decide +kernel
    have h5 := hb 5 (Nat.le_refl 5)
    rw [e, t5 k hk q] at h5
    cases h5
set_option maxHeartbeats 4000000 in
set_option maxRecDepth 100000 in
theorem law_loop {p : Program} {l : Launch} {e : Env} {s : State} {m : MethodId} {below : List Frame} {meth : Method} {c : Code} {D : va_G} {cy : Nat → ClassId} {b L : Nat} {xs : Nat → Int32} (C0 : lw_At p s m meth c b L xs) (hG : ∀ w ∈ GW, w.before #[Value.ref b] s = true) (hKX : KX D cy s) (hL : L ≤ 3072) {x m7 : Nat} {cells slots : Nat} (hc : cells ≤ room_1.cells ∧ slots ≤ room_1.slots) :
    ∀ (n i : Nat), i ≤ L → L + 1 ≤ i + n → ∀ (W0 : va_W) (H : Heap) (locs : List Loc) (ls : Array Slot), INV cy x m7 W0 → va_P D vwCl W0 H → va_D (fun q : Nat => s.heap.size ≤ q) W0 → va_S (fun q : Nat => s.heap.size ≤ q) s.heap H locs → lv_has ls 4 [(0, .ref b), (1, .ref x), (2, .ref m7), (3, .int (nI i))] → W p l e room_1 s m #[Value.ref b] below meth c H locs cells slots (lw_Z below #[Value.ref b] s) (F0 m 18 ls []) := by
  have C1 := C0
  obtain ⟨hx, hb, hr, hml, hown, hts, hX, hbl, hlocks, hgv⟩ := C0
  have hA : ∀ q : Nat, s.heap.size ≤ q → (fun q : Nat => s.heap.size ≤ q) q := fun _ h => h
  have hbA : ¬ (fun q : Nat => s.heap.size ≤ q) b := Nat.not_le.mpr hbl
  intro n
  induction n with
  | zero =>
    intro i h1 h2
    exact absurd h2 (by omega)
  | succ n ih =>
    intro i hi hin W0 H locs ls hI hP hD hS hl
    refine lv_iload_n hx hb dL_law_18 rfl (lv_at hl 3 rfl) ?_
    refine lv_aload_n hx hb dL_law_19 rfl (lv_at hl 0 rfl) ?_
    refine va_slen hx hb hX hbl hbA hS dL_law_20 ?_
    refine lv_bipush (v := (6 : Int32)) hx hb dL_law_21 (by decide) ?_
    refine lv_isub hx hb dL_law_23 ?_
    refine lv_icmp_gt (tgt := 1114) hx hb dL_law_24 (by decide) (fun c1 => ?_) (fun c1 => ?_)
    · refine lv_iconst (v := (1 : Int32)) hx hb dL_law_1114 (by decide) ?_
      refine va_forget (fun q hq => hS.2.2 q hq) ?_
      refine W.widen (k := 600000) (n := 7302249) hc.1 hc.2 ?_
      exact lw_ret hx hb hr hlocks dL_law_1115
    · have hlt : i + 6 ≤ L := by
        rcases Nat.lt_or_ge L (i + 6) with q | q
        · exact absurd ((ex_lt (i := i) (L := L) (by omega) hL).mpr q) c1
        · exact q
      have back : ∀ (W' : va_W) (H' : Heap) (locs' : List Loc), INV cy x m7 W' → va_P D vwCl W' H' → va_D (fun q : Nat => s.heap.size ≤ q) W' → va_S (fun q : Nat => s.heap.size ≤ q) s.heap H' locs' → W p l e room_1 s m #[Value.ref b] below meth c H' locs' cells slots (lw_Z below #[Value.ref b] s) (F0 m 1108 ls []) := by
        intro W' H' locs' hI' hP' hD' hS'
        refine lv_iinc (v := nI (i + 6)) (lv' := [(3, .int (nI (i + 6))), (0, .ref b), (1, .ref x), (2, .ref m7)]) hx hb dL_law_1108 hl (k := 3) rfl (show nI i + nI 6 = nI (i + 6) from nI_add i 6) (by decide) rfl (fun ls hl => ?_)
        refine lv_goto (tgt := 18) hx hb dL_law_1111 (by decide) ?_
        exact ih (i + 6) hlt (by omega) W' H' locs' ls hI' hP' hD' hS' (lv_sub hl [1, 2, 3, 0] rfl)
      refine lv_aload_n hx hb dL_law_27 rfl (lv_at hl 0 rfl) ?_
      refine lv_iload_n hx hb dL_law_28 rfl (lv_at hl 3 rfl) ?_
      refine va_sld (i := nI i) hx hb hX hbl hbA hS (vp_in_nI (by omega) (by omega)) dL_law_29 ?_
      refine lv_bipush (v := (31 : Int32)) hx hb dL_law_30 (by decide) ?_
      refine lv_iand hx hb dL_law_32 ?_
      obtain ⟨t, ht, et⟩ := low5 (xs (nI i).toNatClampNeg)
      rw [et]
      rcases (show t = 0 ∨ t = 1 ∨ t = 2 ∨ t = 3 ∨ t = 4 ∨ t = 5 ∨ t = 6 ∨ t = 7 ∨ t = 8 ∨ t = 9 ∨ t = 10 ∨ t = 11 ∨ t = 12 ∨ t = 13 ∨ t = 14 ∨ t = 15 ∨ t = 16 ∨ t = 17 ∨ t = 18 ∨ t = 19 ∨ t = 20 ∨ t = 21 ∨ t = 22 ∨ t = 23 ∨ t = 24 ∨ t = 25 ∨ t = 26 ∨ t = 27 ∨ t = 28 ∨ t = 29 ∨ t = 30 ∨ t = 31 by omega) with rfl | rfl | rfl | rfl | rfl | rfl | rfl | rfl | rfl | rfl | rfl | rfl | rfl | rfl | rfl | rfl | rfl | rfl | rfl | rfl | rfl | rfl | rfl | rfl | rfl | rfl | rfl | rfl | rfl | rfl | rfl | rfl
      · exact lv_tableIn (tgt := 168) hx hb dL_law_33 (by decide) (by decide) rfl (by decide) (lc_0 C1 hG hKX hlt hL hI hc hP hD hS hl back)
      · exact lv_tableIn (tgt := 211) hx hb dL_law_33 (by decide) (by decide) rfl (by decide) (lc_1 C1 hG hKX hlt hL hI hc hP hD hS hl back)
      · exact lv_tableIn (tgt := 254) hx hb dL_law_33 (by decide) (by decide) rfl (by decide) (lc_2 C1 hG hKX hlt hL hI hc hP hD hS hl back)
      · exact lv_tableIn (tgt := 313) hx hb dL_law_33 (by decide) (by decide) rfl (by decide) (lc_3 C1 hG hKX hlt hL hI hc hP hD hS hl back)
      · exact lv_tableIn (tgt := 336) hx hb dL_law_33 (by decide) (by decide) rfl (by decide) (lc_4 C1 hG hKX hlt hL hI hc hP hD hS hl back)
      · exact lv_tableIn (tgt := 369) hx hb dL_law_33 (by decide) (by decide) rfl (by decide) (lc_5 C1 hG hKX hlt hL hI hc hP hD hS hl back)
      · exact lv_tableIn (tgt := 392) hx hb dL_law_33 (by decide) (by decide) rfl (by decide) (lc_6 C1 hG hKX hlt hL hI hc hP hD hS hl back)
      · exact lv_tableIn (tgt := 405) hx hb dL_law_33 (by decide) (by decide) rfl (by decide) (lc_7 C1 hG hKX hlt hL hI hc hP hD hS hl back)
      · exact lv_tableIn (tgt := 438) hx hb dL_law_33 (by decide) (by decide) rfl (by decide) (lc_8 C1 hG hKX hlt hL hI hc hP hD hS hl back)
      · exact lv_tableIn (tgt := 461) hx hb dL_law_33 (by decide) (by decide) rfl (by decide) (lc_9 C1 hG hKX hlt hL hI hc hP hD hS hl back)
      · exact lv_tableIn (tgt := 484) hx hb dL_law_33 (by decide) (by decide) rfl (by decide) (lc_10 C1 hG hKX hlt hL hI hc hP hD hS hl back)
      · exact lv_tableIn (tgt := 517) hx hb dL_law_33 (by decide) (by decide) rfl (by decide) (lc_11 C1 hG hKX hlt hL hI hc hP hD hS hl back)
      · exact lv_tableIn (tgt := 550) hx hb dL_law_33 (by decide) (by decide) rfl (by decide) (lc_12 C1 hG hKX hlt hL hI hc hP hD hS hl back)
      · exact lv_tableIn (tgt := 574) hx hb dL_law_33 (by decide) (by decide) rfl (by decide) (lc_13 C1 hG hKX hlt hL hI hc hP hD hS hl back)
      · exact lv_tableIn (tgt := 597) hx hb dL_law_33 (by decide) (by decide) rfl (by decide) (lc_14 C1 hG hKX hlt hL hI hc hP hD hS hl back)
      · exact lv_tableIn (tgt := 630) hx hb dL_law_33 (by decide) (by decide) rfl (by decide) (lc_15 C1 hG hKX hlt hL hI hc hP hD hS hl back)
      · exact lv_tableIn (tgt := 653) hx hb dL_law_33 (by decide) (by decide) rfl (by decide) (lc_16 C1 hG hKX hlt hL hI hc hP hD hS hl back)
      · exact lv_tableIn (tgt := 687) hx hb dL_law_33 (by decide) (by decide) rfl (by decide) (lc_17 C1 hG hKX hlt hL hI hc hP hD hS hl back)
      · exact lv_tableIn (tgt := 711) hx hb dL_law_33 (by decide) (by decide) rfl (by decide) (lc_18 C1 hG hKX hlt hL hI hc hP hD hS hl back)
      · exact lv_tableIn (tgt := 744) hx hb dL_law_33 (by decide) (by decide) rfl (by decide) (lc_19 C1 hG hKX hlt hL hI hc hP hD hS hl back)
      · exact lv_tableIn (tgt := 767) hx hb dL_law_33 (by decide) (by decide) rfl (by decide) (lc_20 C1 hG hKX hlt hL hI hc hP hD hS hl back)
      · exact lv_tableIn (tgt := 800) hx hb dL_law_33 (by decide) (by decide) rfl (by decide) (lc_21 C1 hG hKX hlt hL hI hc hP hD hS hl back)
      · exact lv_tableIn (tgt := 813) hx hb dL_law_33 (by decide) (by decide) rfl (by decide) (lc_22 C1 hG hKX hlt hL hI hc hP hD hS hl back)
      · exact lv_tableIn (tgt := 846) hx hb dL_law_33 (by decide) (by decide) rfl (by decide) (lc_23 C1 hG hKX hlt hL hI hc hP hD hS hl back)
      · exact lv_tableIn (tgt := 859) hx hb dL_law_33 (by decide) (by decide) rfl (by decide) (lc_24 C1 hG hKX hlt hL hI hc hP hD hS hl back)
      · exact lv_tableIn (tgt := 872) hx hb dL_law_33 (by decide) (by decide) rfl (by decide) (lc_25 C1 hG hKX hlt hL hI hc hP hD hS hl back)
      · exact lv_tableIn (tgt := 895) hx hb dL_law_33 (by decide) (by decide) rfl (by decide) (lc_26 C1 hG hKX hlt hL hI hc hP hD hS hl back)
      · exact lv_tableIn (tgt := 938) hx hb dL_law_33 (by decide) (by decide) rfl (by decide) (lc_27 C1 hG hKX hlt hL hI hc hP hD hS hl back)
      · exact lv_tableIn (tgt := 1011) hx hb dL_law_33 (by decide) (by decide) rfl (by decide) (lc_28 C1 hG hKX hlt hL hI hc hP hD hS hl back)
      · exact lv_tableIn (tgt := 1045) hx hb dL_law_33 (by decide) (by decide) rfl (by decide) (lc_29 C1 hG hKX hlt hL hI hc hP hD hS hl back)
      · exact lv_tableOut (tgt := 1108) hx hb dL_law_33 (Or.inr (by decide)) (by decide) (back W0 H locs hI hP hD hS)
      · exact lv_tableOut (tgt := 1108) hx hb dL_law_33 (Or.inr (by decide)) (by decide) (back W0 H locs hI hP hD hS)
