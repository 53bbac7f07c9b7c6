/-! the law, call by call -/
set_option maxHeartbeats 4000000 in
set_option maxRecDepth 100000 in
theorem lc_16 {p : Program} {l : Launch} {e : Env} {s : State} {m : MethodId} {below : List Frame} {meth : Method} {c : Code} {D : va_G} {cy : Nat → ClassId} {b L : Nat} {xs : Nat → Int32} (C0 : lw_At p s m meth c b L xs) (hG : ∀ w ∈ GW, w.before #[Value.ref b] s = true) (hKX : KX D cy s) {i : Nat} (hi : i + 6 ≤ L) (hL : L ≤ 3072) {x m7 : Nat} {W0 : va_W} (hI : INV cy x m7 W0) {cells slots : Nat} (hc : cells ≤ room_1.cells ∧ slots ≤ room_1.slots) {H : Heap} {locs : List Loc} {ls : Array Slot} (hP : va_P D vwCl W0 H) (hD : va_D (fun q : Nat => s.heap.size ≤ q) W0) (hS : va_S (fun q : Nat => s.heap.size ≤ q) s.heap H locs) (hl : lv_has ls 4 [(0, .ref b), (1, .ref x), (2, .ref m7), (3, .int (nI i))]) (kk : ∀ (W' : va_W) (H' : Heap) (locs' : List Loc), INV cy x m7 W' → va_P D vwCl W' H' → va_D (fun q : Nat => s.heap.size ≤ q) W' → va_S (fun q : Nat => s.heap.size ≤ q) s.heap H' locs' → W p l e room_1 s m #[Value.ref b] below meth c H' locs' cells slots (lw_Z below #[Value.ref b] s) (F0 m 1108 ls [])) : W p l e room_1 s m #[Value.ref b] below meth c H locs cells slots (lw_Z below #[Value.ref b] s) (F0 m 653 ls []) := by
  obtain ⟨hx, hb, hr, hml, hown, hts, hX, hbl, hlocks, hgv⟩ := C0
  have hA : ∀ q : Nat, s.heap.size ≤ q → (fun q : Nat => s.heap.size ≤ q) q := fun _ h => h
  have hbA : ¬ (fun q : Nat => s.heap.size ≤ q) b := Nat.not_le.mpr hbl
  obtain ⟨ρ, W1, W2, f6, f7, g1, g2, g3, g4, g5⟩ := opx_odds l D cy hI (xs (nI i + (1 : Int32)).toNatClampNeg) (xs (nI i + (2 : Int32)).toNatClampNeg)
  refine lv_aload_n hx hb dL_law_653 rfl (lv_at hl 1 rfl) ?_
  refine lv_aload_n hx hb dL_law_654 rfl (lv_at hl 0 rfl) ?_
  refine lv_iload_n hx hb dL_law_655 rfl (lv_at hl 3 rfl) ?_
  refine lv_iconst (v := (1 : Int32)) hx hb dL_law_656 (by decide) ?_
  refine lv_iadd hx hb dL_law_657 ?_
  refine va_sld (i := (nI i + (1 : Int32))) hx hb hX hbl hbA hS (vp_at (k := 1) (by omega) hL) dL_law_658 ?_
  refine lv_aload_n hx hb dL_law_659 rfl (lv_at hl 0 rfl) ?_
  refine lv_iload_n hx hb dL_law_660 rfl (lv_at hl 3 rfl) ?_
  refine lv_iconst (v := (2 : Int32)) hx hb dL_law_661 (by decide) ?_
  refine lv_iadd hx hb dL_law_662 ?_
  refine va_sld (i := (nI i + (2 : Int32))) hx hb hX hbl hbA hS (vp_at (k := 2) (by omega) hL) dL_law_663 ?_
  refine lawJ (As := [.int (xs (nI i + (1 : Int32)).toNatClampNeg), .int (xs (nI i + (2 : Int32)).toNatClampNeg)]) (rest := []) (ci := 6) (n := 2) mw27_17 mw27_18 mw27_19 mw1_2 mw27_20 rfl rfl hd_X6_odds hx hb hml hown hG hKX g2 ⟨Nat.le_of_ble_eq_true rfl, Nat.le_of_ble_eq_true rfl⟩ hc hP hD hS hA g1 rfl hl.1 rfl (Nat.le_of_ble_eq_true rfl) dL_law_664 (fun H locs hP hD hS => ?_)
  refine lv_aload_n hx hb dL_law_667 rfl (lv_at hl 2 rfl) ?_
  refine lv_aload_n hx hb dL_law_668 rfl (lv_at hl 0 rfl) ?_
  refine lv_iload_n hx hb dL_law_669 rfl (lv_at hl 3 rfl) ?_
  refine lv_iconst (v := (1 : Int32)) hx hb dL_law_670 (by decide) ?_
  refine lv_iadd hx hb dL_law_671 ?_
  refine va_sld (i := (nI i + (1 : Int32))) hx hb hX hbl hbA hS (vp_at (k := 1) (by omega) hL) dL_law_672 ?_
  refine lv_aload_n hx hb dL_law_673 rfl (lv_at hl 0 rfl) ?_
  refine lv_iload_n hx hb dL_law_674 rfl (lv_at hl 3 rfl) ?_
  refine lv_iconst (v := (2 : Int32)) hx hb dL_law_675 (by decide) ?_
  refine lv_iadd hx hb dL_law_676 ?_
  refine va_sld (i := (nI i + (2 : Int32))) hx hb hX hbl hbA hS (vp_at (k := 2) (by omega) hL) dL_law_677 ?_
  refine lawJ (As := [.int (xs (nI i + (1 : Int32)).toNatClampNeg), .int (xs (nI i + (2 : Int32)).toNatClampNeg)]) (rest := [.long ρ]) (ci := 7) (n := 2) mw28_3 mw28_4 mw28_5 mw1_5 mw28_6 rfl rfl hd_X7_odds hx hb hml hown hG hKX g4 ⟨Nat.le_of_ble_eq_true rfl, Nat.le_of_ble_eq_true rfl⟩ hc hP hD hS hA g3 rfl hl.1 rfl (Nat.le_of_ble_eq_true rfl) dL_law_678 (fun H locs hP hD hS => ?_)
  refine W.lcmp hx hb dL_law_681 ?_
  refine lv_if_eq (tgt := 1108) hx hb dL_law_682 (by decide) (fun _ => ?_) (fun h => absurd (lgc_eq.mpr rfl) h)
  exact kk W2 H locs g5 hP hD hS
set_option maxHeartbeats 4000000 in
set_option maxRecDepth 100000 in
theorem lc_17 {p : Program} {l : Launch} {e : Env} {s : State} {m : MethodId} {below : List Frame} {meth : Method} {c : Code} {D : va_G} {cy : Nat → ClassId} {b L : Nat} {xs : Nat → Int32} (C0 : lw_At p s m meth c b L xs) (hG : ∀ w ∈ GW, w.before #[Value.ref b] s = true) (hKX : KX D cy s) {i : Nat} (hi : i + 6 ≤ L) (hL : L ≤ 3072) {x m7 : Nat} {W0 : va_W} (hI : INV cy x m7 W0) {cells slots : Nat} (hc : cells ≤ room_1.cells ∧ slots ≤ room_1.slots) {H : Heap} {locs : List Loc} {ls : Array Slot} (hP : va_P D vwCl W0 H) (hD : va_D (fun q : Nat => s.heap.size ≤ q) W0) (hS : va_S (fun q : Nat => s.heap.size ≤ q) s.heap H locs) (hl : lv_has ls 4 [(0, .ref b), (1, .ref x), (2, .ref m7), (3, .int (nI i))]) (kk : ∀ (W' : va_W) (H' : Heap) (locs' : List Loc), INV cy x m7 W' → va_P D vwCl W' H' → va_D (fun q : Nat => s.heap.size ≤ q) W' → va_S (fun q : Nat => s.heap.size ≤ q) s.heap H' locs' → W p l e room_1 s m #[Value.ref b] below meth c H' locs' cells slots (lw_Z below #[Value.ref b] s) (F0 m 1108 ls [])) : W p l e room_1 s m #[Value.ref b] below meth c H locs cells slots (lw_Z below #[Value.ref b] s) (F0 m 687 ls []) := by
  obtain ⟨hx, hb, hr, hml, hown, hts, hX, hbl, hlocks, hgv⟩ := C0
  have hA : ∀ q : Nat, s.heap.size ≤ q → (fun q : Nat => s.heap.size ≤ q) q := fun _ h => h
  have hbA : ¬ (fun q : Nat => s.heap.size ≤ q) b := Nat.not_le.mpr hbl
  obtain ⟨ρ, W1, W2, f6, f7, g1, g2, g3, g4, g5⟩ := opx_mean l D cy hI (xs (nI i + (1 : Int32)).toNatClampNeg)
  refine lv_aload_n hx hb dL_law_687 rfl (lv_at hl 1 rfl) ?_
  refine lv_aload_n hx hb dL_law_688 rfl (lv_at hl 0 rfl) ?_
  refine lv_iload_n hx hb dL_law_689 rfl (lv_at hl 3 rfl) ?_
  refine lv_iconst (v := (1 : Int32)) hx hb dL_law_690 (by decide) ?_
  refine lv_iadd hx hb dL_law_691 ?_
  refine va_sld (i := (nI i + (1 : Int32))) hx hb hX hbl hbA hS (vp_at (k := 1) (by omega) hL) dL_law_692 ?_
  refine lawJ (As := [.int (xs (nI i + (1 : Int32)).toNatClampNeg)]) (rest := []) (ci := 6) (n := 1) mw28_11 mw28_12 mw28_13 mw1_2 mw28_14 rfl rfl hd_X6_mean hx hb hml hown hG hKX g2 ⟨Nat.le_of_ble_eq_true rfl, Nat.le_of_ble_eq_true rfl⟩ hc hP hD hS hA g1 rfl hl.1 rfl (Nat.le_of_ble_eq_true rfl) dL_law_693 (fun H locs hP hD hS => ?_)
  refine lv_aload_n hx hb dL_law_696 rfl (lv_at hl 2 rfl) ?_
  refine lv_aload_n hx hb dL_law_697 rfl (lv_at hl 0 rfl) ?_
  refine lv_iload_n hx hb dL_law_698 rfl (lv_at hl 3 rfl) ?_
  refine lv_iconst (v := (1 : Int32)) hx hb dL_law_699 (by decide) ?_
  refine lv_iadd hx hb dL_law_700 ?_
  refine va_sld (i := (nI i + (1 : Int32))) hx hb hX hbl hbA hS (vp_at (k := 1) (by omega) hL) dL_law_701 ?_
  refine lawJ (As := [.int (xs (nI i + (1 : Int32)).toNatClampNeg)]) (rest := [.long ρ]) (ci := 7) (n := 1) mw28_15 mw28_16 mw28_17 mw1_5 mw28_18 rfl rfl hd_X7_mean hx hb hml hown hG hKX g4 ⟨Nat.le_of_ble_eq_true rfl, Nat.le_of_ble_eq_true rfl⟩ hc hP hD hS hA g3 rfl hl.1 rfl (Nat.le_of_ble_eq_true rfl) dL_law_702 (fun H locs hP hD hS => ?_)
  refine W.lcmp hx hb dL_law_705 ?_
  refine lv_if_eq (tgt := 1108) hx hb dL_law_706 (by decide) (fun _ => ?_) (fun h => absurd (lgc_eq.mpr rfl) h)
  exact kk W2 H locs g5 hP hD hS
set_option maxHeartbeats 4000000 in
set_option maxRecDepth 100000 in
theorem lc_18 {p : Program} {l : Launch} {e : Env} {s : State} {m : MethodId} {below : List Frame} {meth : Method} {c : Code} {D : va_G} {cy : Nat → ClassId} {b L : Nat} {xs : Nat → Int32} (C0 : lw_At p s m meth c b L xs) (hG : ∀ w ∈ GW, w.before #[Value.ref b] s = true) (hKX : KX D cy s) {i : Nat} (hi : i + 6 ≤ L) (hL : L ≤ 3072) {x m7 : Nat} {W0 : va_W} (hI : INV cy x m7 W0) {cells slots : Nat} (hc : cells ≤ room_1.cells ∧ slots ≤ room_1.slots) {H : Heap} {locs : List Loc} {ls : Array Slot} (hP : va_P D vwCl W0 H) (hD : va_D (fun q : Nat => s.heap.size ≤ q) W0) (hS : va_S (fun q : Nat => s.heap.size ≤ q) s.heap H locs) (hl : lv_has ls 4 [(0, .ref b), (1, .ref x), (2, .ref m7), (3, .int (nI i))]) (kk : ∀ (W' : va_W) (H' : Heap) (locs' : List Loc), INV cy x m7 W' → va_P D vwCl W' H' → va_D (fun q : Nat => s.heap.size ≤ q) W' → va_S (fun q : Nat => s.heap.size ≤ q) s.heap H' locs' → W p l e room_1 s m #[Value.ref b] below meth c H' locs' cells slots (lw_Z below #[Value.ref b] s) (F0 m 1108 ls [])) : W p l e room_1 s m #[Value.ref b] below meth c H locs cells slots (lw_Z below #[Value.ref b] s) (F0 m 711 ls []) := by
  obtain ⟨hx, hb, hr, hml, hown, hts, hX, hbl, hlocks, hgv⟩ := C0
  have hA : ∀ q : Nat, s.heap.size ≤ q → (fun q : Nat => s.heap.size ≤ q) q := fun _ h => h
  have hbA : ¬ (fun q : Nat => s.heap.size ≤ q) b := Nat.not_le.mpr hbl
  obtain ⟨ρ, W1, W2, f6, f7, g1, g2, g3, g4, g5⟩ := opx_plan l D cy hI (xs (nI i + (1 : Int32)).toNatClampNeg) (xs (nI i + (2 : Int32)).toNatClampNeg)
  refine lv_aload_n hx hb dL_law_711 rfl (lv_at hl 1 rfl) ?_
  refine lv_aload_n hx hb dL_law_712 rfl (lv_at hl 0 rfl) ?_
  refine lv_iload_n hx hb dL_law_713 rfl (lv_at hl 3 rfl) ?_
  refine lv_iconst (v := (1 : Int32)) hx hb dL_law_714 (by decide) ?_
  refine lv_iadd hx hb dL_law_715 ?_
  refine va_sld (i := (nI i + (1 : Int32))) hx hb hX hbl hbA hS (vp_at (k := 1) (by omega) hL) dL_law_716 ?_
  refine lv_aload_n hx hb dL_law_717 rfl (lv_at hl 0 rfl) ?_
  refine lv_iload_n hx hb dL_law_718 rfl (lv_at hl 3 rfl) ?_
  refine lv_iconst (v := (2 : Int32)) hx hb dL_law_719 (by decide) ?_
  refine lv_iadd hx hb dL_law_720 ?_
  refine va_sld (i := (nI i + (2 : Int32))) hx hb hX hbl hbA hS (vp_at (k := 2) (by omega) hL) dL_law_721 ?_
  refine lawI (As := [.int (xs (nI i + (1 : Int32)).toNatClampNeg), .int (xs (nI i + (2 : Int32)).toNatClampNeg)]) (rest := []) (ci := 6) (n := 2) mw28_19 mw28_20 mw28_21 mw1_2 mw28_22 rfl rfl hd_X6_plan hx hb hml hown hG hKX g2 ⟨Nat.le_of_ble_eq_true rfl, Nat.le_of_ble_eq_true rfl⟩ hc hP hD hS hA g1 rfl hl.1 rfl (Nat.le_of_ble_eq_true rfl) dL_law_722 (fun H locs hP hD hS => ?_)
  refine lv_aload_n hx hb dL_law_725 rfl (lv_at hl 2 rfl) ?_
  refine lv_aload_n hx hb dL_law_726 rfl (lv_at hl 0 rfl) ?_
  refine lv_iload_n hx hb dL_law_727 rfl (lv_at hl 3 rfl) ?_
  refine lv_iconst (v := (1 : Int32)) hx hb dL_law_728 (by decide) ?_
  refine lv_iadd hx hb dL_law_729 ?_
  refine va_sld (i := (nI i + (1 : Int32))) hx hb hX hbl hbA hS (vp_at (k := 1) (by omega) hL) dL_law_730 ?_
  refine lv_aload_n hx hb dL_law_731 rfl (lv_at hl 0 rfl) ?_
  refine lv_iload_n hx hb dL_law_732 rfl (lv_at hl 3 rfl) ?_
  refine lv_iconst (v := (2 : Int32)) hx hb dL_law_733 (by decide) ?_
  refine lv_iadd hx hb dL_law_734 ?_
  refine va_sld (i := (nI i + (2 : Int32))) hx hb hX hbl hbA hS (vp_at (k := 2) (by omega) hL) dL_law_735 ?_
  refine lawI (As := [.int (xs (nI i + (1 : Int32)).toNatClampNeg), .int (xs (nI i + (2 : Int32)).toNatClampNeg)]) (rest := [.int ρ]) (ci := 7) (n := 2) mw29_4 mw29_5 mw29_6 mw1_5 mw29_7 rfl rfl hd_X7_plan hx hb hml hown hG hKX g4 ⟨Nat.le_of_ble_eq_true rfl, Nat.le_of_ble_eq_true rfl⟩ hc hP hD hS hA g3 rfl hl.1 rfl (Nat.le_of_ble_eq_true rfl) dL_law_736 (fun H locs hP hD hS => ?_)
  refine lv_icmp_eq (tgt := 1108) hx hb dL_law_739 (by decide) (fun _ => ?_) (fun h => absurd rfl h)
  exact kk W2 H locs g5 hP hD hS
set_option maxHeartbeats 4000000 in
set_option maxRecDepth 100000 in
theorem lc_19 {p : Program} {l : Launch} {e : Env} {s : State} {m : MethodId} {below : List Frame} {meth : Method} {c : Code} {D : va_G} {cy : Nat → ClassId} {b L : Nat} {xs : Nat → Int32} (C0 : lw_At p s m meth c b L xs) (hG : ∀ w ∈ GW, w.before #[Value.ref b] s = true) (hKX : KX D cy s) {i : Nat} (hi : i + 6 ≤ L) (hL : L ≤ 3072) {x m7 : Nat} {W0 : va_W} (hI : INV cy x m7 W0) {cells slots : Nat} (hc : cells ≤ room_1.cells ∧ slots ≤ room_1.slots) {H : Heap} {locs : List Loc} {ls : Array Slot} (hP : va_P D vwCl W0 H) (hD : va_D (fun q : Nat => s.heap.size ≤ q) W0) (hS : va_S (fun q : Nat => s.heap.size ≤ q) s.heap H locs) (hl : lv_has ls 4 [(0, .ref b), (1, .ref x), (2, .ref m7), (3, .int (nI i))]) (kk : ∀ (W' : va_W) (H' : Heap) (locs' : List Loc), INV cy x m7 W' → va_P D vwCl W' H' → va_D (fun q : Nat => s.heap.size ≤ q) W' → va_S (fun q : Nat => s.heap.size ≤ q) s.heap H' locs' → W p l e room_1 s m #[Value.ref b] below meth c H' locs' cells slots (lw_Z below #[Value.ref b] s) (F0 m 1108 ls [])) : W p l e room_1 s m #[Value.ref b] below meth c H locs cells slots (lw_Z below #[Value.ref b] s) (F0 m 744 ls []) := by
  obtain ⟨hx, hb, hr, hml, hown, hts, hX, hbl, hlocks, hgv⟩ := C0
  have hA : ∀ q : Nat, s.heap.size ≤ q → (fun q : Nat => s.heap.size ≤ q) q := fun _ h => h
  have hbA : ¬ (fun q : Nat => s.heap.size ≤ q) b := Nat.not_le.mpr hbl
  obtain ⟨ρ, W1, W2, f6, f7, g1, g2, g3, g4, g5⟩ := opx_ends l D cy hI (xs (nI i + (1 : Int32)).toNatClampNeg)
  refine lv_aload_n hx hb dL_law_744 rfl (lv_at hl 1 rfl) ?_
  refine lv_aload_n hx hb dL_law_745 rfl (lv_at hl 0 rfl) ?_
  refine lv_iload_n hx hb dL_law_746 rfl (lv_at hl 3 rfl) ?_
  refine lv_iconst (v := (1 : Int32)) hx hb dL_law_747 (by decide) ?_
  refine lv_iadd hx hb dL_law_748 ?_
  refine va_sld (i := (nI i + (1 : Int32))) hx hb hX hbl hbA hS (vp_at (k := 1) (by omega) hL) dL_law_749 ?_
  refine lawI (As := [.int (xs (nI i + (1 : Int32)).toNatClampNeg)]) (rest := []) (ci := 6) (n := 1) mw29_9 mw29_10 mw29_11 mw1_2 mw29_12 rfl rfl hd_X6_ends hx hb hml hown hG hKX g2 ⟨Nat.le_of_ble_eq_true rfl, Nat.le_of_ble_eq_true rfl⟩ hc hP hD hS hA g1 rfl hl.1 rfl (Nat.le_of_ble_eq_true rfl) dL_law_750 (fun H locs hP hD hS => ?_)
  refine lv_aload_n hx hb dL_law_753 rfl (lv_at hl 2 rfl) ?_
  refine lv_aload_n hx hb dL_law_754 rfl (lv_at hl 0 rfl) ?_
  refine lv_iload_n hx hb dL_law_755 rfl (lv_at hl 3 rfl) ?_
  refine lv_iconst (v := (1 : Int32)) hx hb dL_law_756 (by decide) ?_
  refine lv_iadd hx hb dL_law_757 ?_
  refine va_sld (i := (nI i + (1 : Int32))) hx hb hX hbl hbA hS (vp_at (k := 1) (by omega) hL) dL_law_758 ?_
  refine lawI (As := [.int (xs (nI i + (1 : Int32)).toNatClampNeg)]) (rest := [.int ρ]) (ci := 7) (n := 1) mw30_6 mw30_7 mw30_8 mw1_5 mw30_9 rfl rfl hd_X7_ends hx hb hml hown hG hKX g4 ⟨Nat.le_of_ble_eq_true rfl, Nat.le_of_ble_eq_true rfl⟩ hc hP hD hS hA g3 rfl hl.1 rfl (Nat.le_of_ble_eq_true rfl) dL_law_759 (fun H locs hP hD hS => ?_)
  refine lv_icmp_eq (tgt := 1108) hx hb dL_law_762 (by decide) (fun _ => ?_) (fun h => absurd rfl h)
  exact kk W2 H locs g5 hP hD hS
set_option maxHeartbeats 4000000 in
set_option maxRecDepth 100000 in
theorem lc_20 {p : Program} {l : Launch} {e : Env} {s : State} {m : MethodId} {below : List Frame} {meth : Method} {c : Code} {D : va_G} {cy : Nat → ClassId} {b L : Nat} {xs : Nat → Int32} (C0 : lw_At p s m meth c b L xs) (hG : ∀ w ∈ GW, w.before #[Value.ref b] s = true) (hKX : KX D cy s) {i : Nat} (hi : i + 6 ≤ L) (hL : L ≤ 3072) {x m7 : Nat} {W0 : va_W} (hI : INV cy x m7 W0) {cells slots : Nat} (hc : cells ≤ room_1.cells ∧ slots ≤ room_1.slots) {H : Heap} {locs : List Loc} {ls : Array Slot} (hP : va_P D vwCl W0 H) (hD : va_D (fun q : Nat => s.heap.size ≤ q) W0) (hS : va_S (fun q : Nat => s.heap.size ≤ q) s.heap H locs) (hl : lv_has ls 4 [(0, .ref b), (1, .ref x), (2, .ref m7), (3, .int (nI i))]) (kk : ∀ (W' : va_W) (H' : Heap) (locs' : List Loc), INV cy x m7 W' → va_P D vwCl W' H' → va_D (fun q : Nat => s.heap.size ≤ q) W' → va_S (fun q : Nat => s.heap.size ≤ q) s.heap H' locs' → W p l e room_1 s m #[Value.ref b] below meth c H' locs' cells slots (lw_Z below #[Value.ref b] s) (F0 m 1108 ls [])) : W p l e room_1 s m #[Value.ref b] below meth c H locs cells slots (lw_Z below #[Value.ref b] s) (F0 m 767 ls []) := by
  obtain ⟨hx, hb, hr, hml, hown, hts, hX, hbl, hlocks, hgv⟩ := C0
  have hA : ∀ q : Nat, s.heap.size ≤ q → (fun q : Nat => s.heap.size ≤ q) q := fun _ h => h
  have hbA : ¬ (fun q : Nat => s.heap.size ≤ q) b := Nat.not_le.mpr hbl
  obtain ⟨ρ, W1, W2, f6, f7, g1, g2, g3, g4, g5⟩ := opx_book l D cy hI (xs (nI i + (1 : Int32)).toNatClampNeg) (xs (nI i + (2 : Int32)).toNatClampNeg)
  refine lv_aload_n hx hb dL_law_767 rfl (lv_at hl 1 rfl) ?_
  refine lv_aload_n hx hb dL_law_768 rfl (lv_at hl 0 rfl) ?_
  refine lv_iload_n hx hb dL_law_769 rfl (lv_at hl 3 rfl) ?_
  refine lv_iconst (v := (1 : Int32)) hx hb dL_law_770 (by decide) ?_
  refine lv_iadd hx hb dL_law_771 ?_
  refine va_sld (i := (nI i + (1 : Int32))) hx hb hX hbl hbA hS (vp_at (k := 1) (by omega) hL) dL_law_772 ?_
  refine lv_aload_n hx hb dL_law_773 rfl (lv_at hl 0 rfl) ?_
  refine lv_iload_n hx hb dL_law_774 rfl (lv_at hl 3 rfl) ?_
  refine lv_iconst (v := (2 : Int32)) hx hb dL_law_775 (by decide) ?_
  refine lv_iadd hx hb dL_law_776 ?_
  refine va_sld (i := (nI i + (2 : Int32))) hx hb hX hbl hbA hS (vp_at (k := 2) (by omega) hL) dL_law_777 ?_
  refine lawI (As := [.int (xs (nI i + (1 : Int32)).toNatClampNeg), .int (xs (nI i + (2 : Int32)).toNatClampNeg)]) (rest := []) (ci := 6) (n := 2) mw30_17 mw30_18 mw30_19 mw1_2 mw30_20 rfl rfl hd_X6_book hx hb hml hown hG hKX g2 ⟨Nat.le_of_ble_eq_true rfl, Nat.le_of_ble_eq_true rfl⟩ hc hP hD hS hA g1 rfl hl.1 rfl (Nat.le_of_ble_eq_true rfl) dL_law_778 (fun H locs hP hD hS => ?_)
  refine lv_aload_n hx hb dL_law_781 rfl (lv_at hl 2 rfl) ?_
  refine lv_aload_n hx hb dL_law_782 rfl (lv_at hl 0 rfl) ?_
  refine lv_iload_n hx hb dL_law_783 rfl (lv_at hl 3 rfl) ?_
  refine lv_iconst (v := (1 : Int32)) hx hb dL_law_784 (by decide) ?_
  refine lv_iadd hx hb dL_law_785 ?_
  refine va_sld (i := (nI i + (1 : Int32))) hx hb hX hbl hbA hS (vp_at (k := 1) (by omega) hL) dL_law_786 ?_
  refine lv_aload_n hx hb dL_law_787 rfl (lv_at hl 0 rfl) ?_
  refine lv_iload_n hx hb dL_law_788 rfl (lv_at hl 3 rfl) ?_
  refine lv_iconst (v := (2 : Int32)) hx hb dL_law_789 (by decide) ?_
  refine lv_iadd hx hb dL_law_790 ?_
  refine va_sld (i := (nI i + (2 : Int32))) hx hb hX hbl hbA hS (vp_at (k := 2) (by omega) hL) dL_law_791 ?_
  refine lawI (As := [.int (xs (nI i + (1 : Int32)).toNatClampNeg), .int (xs (nI i + (2 : Int32)).toNatClampNeg)]) (rest := [.int ρ]) (ci := 7) (n := 2) mw30_22 mw30_23 mw31_0 mw1_5 mw31_1 rfl rfl hd_X7_book hx hb hml hown hG hKX g4 ⟨Nat.le_of_ble_eq_true rfl, Nat.le_of_ble_eq_true rfl⟩ hc hP hD hS hA g3 rfl hl.1 rfl (Nat.le_of_ble_eq_true rfl) dL_law_792 (fun H locs hP hD hS => ?_)
  refine lv_icmp_eq (tgt := 1108) hx hb dL_law_795 (by decide) (fun _ => ?_) (fun h => absurd rfl h)
  exact kk W2 H locs g5 hP hD hS
set_option maxHeartbeats 4000000 in
set_option maxRecDepth 100000 in
theorem lc_21 {p : Program} {l : Launch} {e : Env} {s : State} {m : MethodId} {below : List Frame} {meth : Method} {c : Code} {D : va_G} {cy : Nat → ClassId} {b L : Nat} {xs : Nat → Int32} (C0 : lw_At p s m meth c b L xs) (hG : ∀ w ∈ GW, w.before #[Value.ref b] s = true) (hKX : KX D cy s) {i : Nat} (hi : i + 6 ≤ L) (hL : L ≤ 3072) {x m7 : Nat} {W0 : va_W} (hI : INV cy x m7 W0) {cells slots : Nat} (hc : cells ≤ room_1.cells ∧ slots ≤ room_1.slots) {H : Heap} {locs : List Loc} {ls : Array Slot} (hP : va_P D vwCl W0 H) (hD : va_D (fun q : Nat => s.heap.size ≤ q) W0) (hS : va_S (fun q : Nat => s.heap.size ≤ q) s.heap H locs) (hl : lv_has ls 4 [(0, .ref b), (1, .ref x), (2, .ref m7), (3, .int (nI i))]) (kk : ∀ (W' : va_W) (H' : Heap) (locs' : List Loc), INV cy x m7 W' → va_P D vwCl W' H' → va_D (fun q : Nat => s.heap.size ≤ q) W' → va_S (fun q : Nat => s.heap.size ≤ q) s.heap H' locs' → W p l e room_1 s m #[Value.ref b] below meth c H' locs' cells slots (lw_Z below #[Value.ref b] s) (F0 m 1108 ls [])) : W p l e room_1 s m #[Value.ref b] below meth c H locs cells slots (lw_Z below #[Value.ref b] s) (F0 m 800 ls []) := by
  obtain ⟨hx, hb, hr, hml, hown, hts, hX, hbl, hlocks, hgv⟩ := C0
  have hA : ∀ q : Nat, s.heap.size ≤ q → (fun q : Nat => s.heap.size ≤ q) q := fun _ h => h
  have hbA : ¬ (fun q : Nat => s.heap.size ≤ q) b := Nat.not_le.mpr hbl
  obtain ⟨ρ, W1, W2, f6, f7, g1, g2, g3, g4, g5⟩ := opx_looked l D cy hI
  refine lv_aload_n hx hb dL_law_800 rfl (lv_at hl 1 rfl) ?_
  refine lawI (As := []) (rest := []) (ci := 6) (n := 0) mw31_2 mw31_3 mw31_4 mw1_2 mw31_5 rfl rfl hd_X6_looked hx hb hml hown hG hKX g2 ⟨Nat.le_of_ble_eq_true rfl, Nat.le_of_ble_eq_true rfl⟩ hc hP hD hS hA g1 rfl hl.1 rfl (Nat.le_of_ble_eq_true rfl) dL_law_801 (fun H locs hP hD hS => ?_)
  refine lv_aload_n hx hb dL_law_804 rfl (lv_at hl 2 rfl) ?_
  refine lawI (As := []) (rest := [.int ρ]) (ci := 7) (n := 0) mw31_6 mw31_7 mw31_8 mw1_5 mw31_9 rfl rfl hd_X7_looked hx hb hml hown hG hKX g4 ⟨Nat.le_of_ble_eq_true rfl, Nat.le_of_ble_eq_true rfl⟩ hc hP hD hS hA g3 rfl hl.1 rfl (Nat.le_of_ble_eq_true rfl) dL_law_805 (fun H locs hP hD hS => ?_)
  refine lv_icmp_eq (tgt := 1108) hx hb dL_law_808 (by decide) (fun _ => ?_) (fun h => absurd rfl h)
  exact kk W2 H locs g5 hP hD hS
set_option maxHeartbeats 4000000 in
set_option maxRecDepth 100000 in
theorem lc_22 {p : Program} {l : Launch} {e : Env} {s : State} {m : MethodId} {below : List Frame} {meth : Method} {c : Code} {D : va_G} {cy : Nat → ClassId} {b L : Nat} {xs : Nat → Int32} (C0 : lw_At p s m meth c b L xs) (hG : ∀ w ∈ GW, w.before #[Value.ref b] s = true) (hKX : KX D cy s) {i : Nat} (hi : i + 6 ≤ L) (hL : L ≤ 3072) {x m7 : Nat} {W0 : va_W} (hI : INV cy x m7 W0) {cells slots : Nat} (hc : cells ≤ room_1.cells ∧ slots ≤ room_1.slots) {H : Heap} {locs : List Loc} {ls : Array Slot} (hP : va_P D vwCl W0 H) (hD : va_D (fun q : Nat => s.heap.size ≤ q) W0) (hS : va_S (fun q : Nat => s.heap.size ≤ q) s.heap H locs) (hl : lv_has ls 4 [(0, .ref b), (1, .ref x), (2, .ref m7), (3, .int (nI i))]) (kk : ∀ (W' : va_W) (H' : Heap) (locs' : List Loc), INV cy x m7 W' → va_P D vwCl W' H' → va_D (fun q : Nat => s.heap.size ≤ q) W' → va_S (fun q : Nat => s.heap.size ≤ q) s.heap H' locs' → W p l e room_1 s m #[Value.ref b] below meth c H' locs' cells slots (lw_Z below #[Value.ref b] s) (F0 m 1108 ls [])) : W p l e room_1 s m #[Value.ref b] below meth c H locs cells slots (lw_Z below #[Value.ref b] s) (F0 m 813 ls []) := by
  obtain ⟨hx, hb, hr, hml, hown, hts, hX, hbl, hlocks, hgv⟩ := C0
  have hA : ∀ q : Nat, s.heap.size ≤ q → (fun q : Nat => s.heap.size ≤ q) q := fun _ h => h
  have hbA : ¬ (fun q : Nat => s.heap.size ≤ q) b := Nat.not_le.mpr hbl
  obtain ⟨ρ, W1, W2, f6, f7, g1, g2, g3, g4, g5⟩ := opx_judge l D cy hI (xs (nI i + (1 : Int32)).toNatClampNeg) (xs (nI i + (2 : Int32)).toNatClampNeg)
  refine lv_aload_n hx hb dL_law_813 rfl (lv_at hl 1 rfl) ?_
  refine lv_aload_n hx hb dL_law_814 rfl (lv_at hl 0 rfl) ?_
  refine lv_iload_n hx hb dL_law_815 rfl (lv_at hl 3 rfl) ?_
  refine lv_iconst (v := (1 : Int32)) hx hb dL_law_816 (by decide) ?_
  refine lv_iadd hx hb dL_law_817 ?_
  refine va_sld (i := (nI i + (1 : Int32))) hx hb hX hbl hbA hS (vp_at (k := 1) (by omega) hL) dL_law_818 ?_
  refine lv_aload_n hx hb dL_law_819 rfl (lv_at hl 0 rfl) ?_
  refine lv_iload_n hx hb dL_law_820 rfl (lv_at hl 3 rfl) ?_
  refine lv_iconst (v := (2 : Int32)) hx hb dL_law_821 (by decide) ?_
  refine lv_iadd hx hb dL_law_822 ?_
  refine va_sld (i := (nI i + (2 : Int32))) hx hb hX hbl hbA hS (vp_at (k := 2) (by omega) hL) dL_law_823 ?_
  refine lawI (As := [.int (xs (nI i + (1 : Int32)).toNatClampNeg), .int (xs (nI i + (2 : Int32)).toNatClampNeg)]) (rest := []) (ci := 6) (n := 2) mw31_10 mw31_11 mw31_12 mw1_2 mw31_13 rfl rfl hd_X6_judge hx hb hml hown hG hKX g2 ⟨Nat.le_of_ble_eq_true rfl, Nat.le_of_ble_eq_true rfl⟩ hc hP hD hS hA g1 rfl hl.1 rfl (Nat.le_of_ble_eq_true rfl) dL_law_824 (fun H locs hP hD hS => ?_)
  refine lv_aload_n hx hb dL_law_827 rfl (lv_at hl 2 rfl) ?_
  refine lv_aload_n hx hb dL_law_828 rfl (lv_at hl 0 rfl) ?_
  refine lv_iload_n hx hb dL_law_829 rfl (lv_at hl 3 rfl) ?_
  refine lv_iconst (v := (1 : Int32)) hx hb dL_law_830 (by decide) ?_
  refine lv_iadd hx hb dL_law_831 ?_
  refine va_sld (i := (nI i + (1 : Int32))) hx hb hX hbl hbA hS (vp_at (k := 1) (by omega) hL) dL_law_832 ?_
  refine lv_aload_n hx hb dL_law_833 rfl (lv_at hl 0 rfl) ?_
  refine lv_iload_n hx hb dL_law_834 rfl (lv_at hl 3 rfl) ?_
  refine lv_iconst (v := (2 : Int32)) hx hb dL_law_835 (by decide) ?_
  refine lv_iadd hx hb dL_law_836 ?_
  refine va_sld (i := (nI i + (2 : Int32))) hx hb hX hbl hbA hS (vp_at (k := 2) (by omega) hL) dL_law_837 ?_
  refine lawI (As := [.int (xs (nI i + (1 : Int32)).toNatClampNeg), .int (xs (nI i + (2 : Int32)).toNatClampNeg)]) (rest := [.int ρ]) (ci := 7) (n := 2) mw32_0 mw32_1 mw32_2 mw1_5 mw32_3 rfl rfl hd_X7_judge hx hb hml hown hG hKX g4 ⟨Nat.le_of_ble_eq_true rfl, Nat.le_of_ble_eq_true rfl⟩ hc hP hD hS hA g3 rfl hl.1 rfl (Nat.le_of_ble_eq_true rfl) dL_law_838 (fun H locs hP hD hS => ?_)
  refine lv_icmp_eq (tgt := 1108) hx hb dL_law_841 (by decide) (fun _ => ?_) (fun h => absurd rfl h)
  exact kk W2 H locs g5 hP hD hS
set_option maxHeartbeats 4000000 in
set_option maxRecDepth 100000 in
theorem lc_23 {p : Program} {l : Launch} {e : Env} {s : State} {m : MethodId} {below : List Frame} {meth : Method} {c : Code} {D : va_G} {cy : Nat → ClassId} {b L : Nat} {xs : Nat → Int32} (C0 : lw_At p s m meth c b L xs) (hG : ∀ w ∈ GW, w.before #[Value.ref b] s = true) (hKX : KX D cy s) {i : Nat} (hi : i + 6 ≤ L) (hL : L ≤ 3072) {x m7 : Nat} {W0 : va_W} (hI : INV cy x m7 W0) {cells slots : Nat} (hc : cells ≤ room_1.cells ∧ slots ≤ room_1.slots) {H : Heap} {locs : List Loc} {ls : Array Slot} (hP : va_P D vwCl W0 H) (hD : va_D (fun q : Nat => s.heap.size ≤ q) W0) (hS : va_S (fun q : Nat => s.heap.size ≤ q) s.heap H locs) (hl : lv_has ls 4 [(0, .ref b), (1, .ref x), (2, .ref m7), (3, .int (nI i))]) (kk : ∀ (W' : va_W) (H' : Heap) (locs' : List Loc), INV cy x m7 W' → va_P D vwCl W' H' → va_D (fun q : Nat => s.heap.size ≤ q) W' → va_S (fun q : Nat => s.heap.size ≤ q) s.heap H' locs' → W p l e room_1 s m #[Value.ref b] below meth c H' locs' cells slots (lw_Z below #[Value.ref b] s) (F0 m 1108 ls [])) : W p l e room_1 s m #[Value.ref b] below meth c H locs cells slots (lw_Z below #[Value.ref b] s) (F0 m 846 ls []) := by
  obtain ⟨hx, hb, hr, hml, hown, hts, hX, hbl, hlocks, hgv⟩ := C0
  have hA : ∀ q : Nat, s.heap.size ≤ q → (fun q : Nat => s.heap.size ≤ q) q := fun _ h => h
  have hbA : ¬ (fun q : Nat => s.heap.size ≤ q) b := Nat.not_le.mpr hbl
  obtain ⟨ρ, W1, W2, f6, f7, g1, g2, g3, g4, g5⟩ := opx_image l D cy hI
  refine lv_aload_n hx hb dL_law_846 rfl (lv_at hl 1 rfl) ?_
  refine lawI (As := []) (rest := []) (ci := 6) (n := 0) mw32_8 mw32_9 mw32_10 mw1_2 mw32_11 rfl rfl hd_X6_image hx hb hml hown hG hKX g2 ⟨Nat.le_of_ble_eq_true rfl, Nat.le_of_ble_eq_true rfl⟩ hc hP hD hS hA g1 rfl hl.1 rfl (Nat.le_of_ble_eq_true rfl) dL_law_847 (fun H locs hP hD hS => ?_)
  refine lv_aload_n hx hb dL_law_850 rfl (lv_at hl 2 rfl) ?_
  refine lawI (As := []) (rest := [.int ρ]) (ci := 7) (n := 0) mw32_22 mw32_23 mw33_0 mw1_5 mw33_1 rfl rfl hd_X7_image hx hb hml hown hG hKX g4 ⟨Nat.le_of_ble_eq_true rfl, Nat.le_of_ble_eq_true rfl⟩ hc hP hD hS hA g3 rfl hl.1 rfl (Nat.le_of_ble_eq_true rfl) dL_law_851 (fun H locs hP hD hS => ?_)
  refine lv_icmp_eq (tgt := 1108) hx hb dL_law_854 (by decide) (fun _ => ?_) (fun h => absurd rfl h)
  exact kk W2 H locs g5 hP hD hS
