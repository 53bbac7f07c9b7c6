/-! the law, call by call -/
set_option maxHeartbeats 4000000 in
set_option maxRecDepth 100000 in
theorem lc_8 {p : Program} {l : Launch} {e : Env} {s : State} {m : MethodId} {below : List Frame} {meth : Method} {c : Code} {D : va_G} {cy : Nat → ClassId} {b L : Nat} {xs : Nat → Int32} (C0 : lw_At p s m meth c b L xs) (hG : ∀ w ∈ GW, w.before #[Value.ref b] s = true) (hKX : KX D cy s) {i : Nat} (hi : i + 6 ≤ L) (hL : L ≤ 3072) {x m7 : Nat} {W0 : va_W} (hI : INV cy x m7 W0) {cells slots : Nat} (hc : cells ≤ room_1.cells ∧ slots ≤ room_1.slots) {H : Heap} {locs : List Loc} {ls : Array Slot} (hP : va_P D vwCl W0 H) (hD : va_D (fun q : Nat => s.heap.size ≤ q) W0) (hS : va_S (fun q : Nat => s.heap.size ≤ q) s.heap H locs) (hl : lv_has ls 4 [(0, .ref b), (1, .ref x), (2, .ref m7), (3, .int (nI i))]) (kk : ∀ (W' : va_W) (H' : Heap) (locs' : List Loc), INV cy x m7 W' → va_P D vwCl W' H' → va_D (fun q : Nat => s.heap.size ≤ q) W' → va_S (fun q : Nat => s.heap.size ≤ q) s.heap H' locs' → W p l e room_1 s m #[Value.ref b] below meth c H' locs' cells slots (lw_Z below #[Value.ref b] s) (F0 m 1108 ls [])) : W p l e room_1 s m #[Value.ref b] below meth c H locs cells slots (lw_Z below #[Value.ref b] s) (F0 m 438 ls []) := by
  obtain ⟨hx, hb, hr, hml, hown, hts, hX, hbl, hlocks, hgv⟩ := C0
  have hA : ∀ q : Nat, s.heap.size ≤ q → (fun q : Nat => s.heap.size ≤ q) q := fun _ h => h
  have hbA : ¬ (fun q : Nat => s.heap.size ≤ q) b := Nat.not_le.mpr hbl
  obtain ⟨ρ, W1, W2, f6, f7, g1, g2, g3, g4, g5⟩ := opx_pays l D cy hI (xs (nI i + (1 : Int32)).toNatClampNeg)
  refine lv_aload_n hx hb dL_law_438 rfl (lv_at hl 1 rfl) ?_
  refine lv_aload_n hx hb dL_law_439 rfl (lv_at hl 0 rfl) ?_
  refine lv_iload_n hx hb dL_law_440 rfl (lv_at hl 3 rfl) ?_
  refine lv_iconst (v := (1 : Int32)) hx hb dL_law_441 (by decide) ?_
  refine lv_iadd hx hb dL_law_442 ?_
  refine va_sld (i := (nI i + (1 : Int32))) hx hb hX hbl hbA hS (vp_at (k := 1) (by omega) hL) dL_law_443 ?_
  refine lawI (As := [.int (xs (nI i + (1 : Int32)).toNatClampNeg)]) (rest := []) (ci := 6) (n := 1) mw20_14 mw20_15 mw20_16 mw1_2 mw20_17 rfl rfl hd_X6_pays hx hb hml hown hG hKX g2 ⟨Nat.le_of_ble_eq_true rfl, Nat.le_of_ble_eq_true rfl⟩ hc hP hD hS hA g1 rfl hl.1 rfl (Nat.le_of_ble_eq_true rfl) dL_law_444 (fun H locs hP hD hS => ?_)
  refine lv_aload_n hx hb dL_law_447 rfl (lv_at hl 2 rfl) ?_
  refine lv_aload_n hx hb dL_law_448 rfl (lv_at hl 0 rfl) ?_
  refine lv_iload_n hx hb dL_law_449 rfl (lv_at hl 3 rfl) ?_
  refine lv_iconst (v := (1 : Int32)) hx hb dL_law_450 (by decide) ?_
  refine lv_iadd hx hb dL_law_451 ?_
  refine va_sld (i := (nI i + (1 : Int32))) hx hb hX hbl hbA hS (vp_at (k := 1) (by omega) hL) dL_law_452 ?_
  refine lawI (As := [.int (xs (nI i + (1 : Int32)).toNatClampNeg)]) (rest := [.int ρ]) (ci := 7) (n := 1) mw20_18 mw20_19 mw20_20 mw1_5 mw20_21 rfl rfl hd_X7_pays hx hb hml hown hG hKX g4 ⟨Nat.le_of_ble_eq_true rfl, Nat.le_of_ble_eq_true rfl⟩ hc hP hD hS hA g3 rfl hl.1 rfl (Nat.le_of_ble_eq_true rfl) dL_law_453 (fun H locs hP hD hS => ?_)
  refine lv_icmp_eq (tgt := 1108) hx hb dL_law_456 (by decide) (fun _ => ?_) (fun h => absurd rfl h)
  exact kk W2 H locs g5 hP hD hS
set_option maxHeartbeats 4000000 in
set_option maxRecDepth 100000 in
theorem lc_9 {p : Program} {l : Launch} {e : Env} {s : State} {m : MethodId} {below : List Frame} {meth : Method} {c : Code} {D : va_G} {cy : Nat → ClassId} {b L : Nat} {xs : Nat → Int32} (C0 : lw_At p s m meth c b L xs) (hG : ∀ w ∈ GW, w.before #[Value.ref b] s = true) (hKX : KX D cy s) {i : Nat} (hi : i + 6 ≤ L) (hL : L ≤ 3072) {x m7 : Nat} {W0 : va_W} (hI : INV cy x m7 W0) {cells slots : Nat} (hc : cells ≤ room_1.cells ∧ slots ≤ room_1.slots) {H : Heap} {locs : List Loc} {ls : Array Slot} (hP : va_P D vwCl W0 H) (hD : va_D (fun q : Nat => s.heap.size ≤ q) W0) (hS : va_S (fun q : Nat => s.heap.size ≤ q) s.heap H locs) (hl : lv_has ls 4 [(0, .ref b), (1, .ref x), (2, .ref m7), (3, .int (nI i))]) (kk : ∀ (W' : va_W) (H' : Heap) (locs' : List Loc), INV cy x m7 W' → va_P D vwCl W' H' → va_D (fun q : Nat => s.heap.size ≤ q) W' → va_S (fun q : Nat => s.heap.size ≤ q) s.heap H' locs' → W p l e room_1 s m #[Value.ref b] below meth c H' locs' cells slots (lw_Z below #[Value.ref b] s) (F0 m 1108 ls [])) : W p l e room_1 s m #[Value.ref b] below meth c H locs cells slots (lw_Z below #[Value.ref b] s) (F0 m 461 ls []) := by
  obtain ⟨hx, hb, hr, hml, hown, hts, hX, hbl, hlocks, hgv⟩ := C0
  have hA : ∀ q : Nat, s.heap.size ≤ q → (fun q : Nat => s.heap.size ≤ q) q := fun _ h => h
  have hbA : ¬ (fun q : Nat => s.heap.size ≤ q) b := Nat.not_le.mpr hbl
  obtain ⟨ρ, W1, W2, f6, f7, g1, g2, g3, g4, g5⟩ := opx_told l D cy hI (xs (nI i + (1 : Int32)).toNatClampNeg)
  refine lv_aload_n hx hb dL_law_461 rfl (lv_at hl 1 rfl) ?_
  refine lv_aload_n hx hb dL_law_462 rfl (lv_at hl 0 rfl) ?_
  refine lv_iload_n hx hb dL_law_463 rfl (lv_at hl 3 rfl) ?_
  refine lv_iconst (v := (1 : Int32)) hx hb dL_law_464 (by decide) ?_
  refine lv_iadd hx hb dL_law_465 ?_
  refine va_sld (i := (nI i + (1 : Int32))) hx hb hX hbl hbA hS (vp_at (k := 1) (by omega) hL) dL_law_466 ?_
  refine lawI (As := [.int (xs (nI i + (1 : Int32)).toNatClampNeg)]) (rest := []) (ci := 6) (n := 1) mw20_23 mw21_0 mw21_1 mw1_2 mw21_2 rfl rfl hd_X6_told hx hb hml hown hG hKX g2 ⟨Nat.le_of_ble_eq_true rfl, Nat.le_of_ble_eq_true rfl⟩ hc hP hD hS hA g1 rfl hl.1 rfl (Nat.le_of_ble_eq_true rfl) dL_law_467 (fun H locs hP hD hS => ?_)
  refine lv_aload_n hx hb dL_law_470 rfl (lv_at hl 2 rfl) ?_
  refine lv_aload_n hx hb dL_law_471 rfl (lv_at hl 0 rfl) ?_
  refine lv_iload_n hx hb dL_law_472 rfl (lv_at hl 3 rfl) ?_
  refine lv_iconst (v := (1 : Int32)) hx hb dL_law_473 (by decide) ?_
  refine lv_iadd hx hb dL_law_474 ?_
  refine va_sld (i := (nI i + (1 : Int32))) hx hb hX hbl hbA hS (vp_at (k := 1) (by omega) hL) dL_law_475 ?_
  refine lawI (As := [.int (xs (nI i + (1 : Int32)).toNatClampNeg)]) (rest := [.int ρ]) (ci := 7) (n := 1) mw22_0 mw22_1 mw22_2 mw1_5 mw22_3 rfl rfl hd_X7_told hx hb hml hown hG hKX g4 ⟨Nat.le_of_ble_eq_true rfl, Nat.le_of_ble_eq_true rfl⟩ hc hP hD hS hA g3 rfl hl.1 rfl (Nat.le_of_ble_eq_true rfl) dL_law_476 (fun H locs hP hD hS => ?_)
  refine lv_icmp_eq (tgt := 1108) hx hb dL_law_479 (by decide) (fun _ => ?_) (fun h => absurd rfl h)
  exact kk W2 H locs g5 hP hD hS
set_option maxHeartbeats 4000000 in
set_option maxRecDepth 100000 in
theorem lc_10 {p : Program} {l : Launch} {e : Env} {s : State} {m : MethodId} {below : List Frame} {meth : Method} {c : Code} {D : va_G} {cy : Nat → ClassId} {b L : Nat} {xs : Nat → Int32} (C0 : lw_At p s m meth c b L xs) (hG : ∀ w ∈ GW, w.before #[Value.ref b] s = true) (hKX : KX D cy s) {i : Nat} (hi : i + 6 ≤ L) (hL : L ≤ 3072) {x m7 : Nat} {W0 : va_W} (hI : INV cy x m7 W0) {cells slots : Nat} (hc : cells ≤ room_1.cells ∧ slots ≤ room_1.slots) {H : Heap} {locs : List Loc} {ls : Array Slot} (hP : va_P D vwCl W0 H) (hD : va_D (fun q : Nat => s.heap.size ≤ q) W0) (hS : va_S (fun q : Nat => s.heap.size ≤ q) s.heap H locs) (hl : lv_has ls 4 [(0, .ref b), (1, .ref x), (2, .ref m7), (3, .int (nI i))]) (kk : ∀ (W' : va_W) (H' : Heap) (locs' : List Loc), INV cy x m7 W' → va_P D vwCl W' H' → va_D (fun q : Nat => s.heap.size ≤ q) W' → va_S (fun q : Nat => s.heap.size ≤ q) s.heap H' locs' → W p l e room_1 s m #[Value.ref b] below meth c H' locs' cells slots (lw_Z below #[Value.ref b] s) (F0 m 1108 ls [])) : W p l e room_1 s m #[Value.ref b] below meth c H locs cells slots (lw_Z below #[Value.ref b] s) (F0 m 484 ls []) := by
  obtain ⟨hx, hb, hr, hml, hown, hts, hX, hbl, hlocks, hgv⟩ := C0
  have hA : ∀ q : Nat, s.heap.size ≤ q → (fun q : Nat => s.heap.size ≤ q) q := fun _ h => h
  have hbA : ¬ (fun q : Nat => s.heap.size ≤ q) b := Nat.not_le.mpr hbl
  obtain ⟨ρ, W1, W2, f6, f7, g1, g2, g3, g4, g5⟩ := opx_why l D cy hI (xs (nI i + (1 : Int32)).toNatClampNeg) (xs (nI i + (2 : Int32)).toNatClampNeg)
  refine lv_aload_n hx hb dL_law_484 rfl (lv_at hl 1 rfl) ?_
  refine lv_aload_n hx hb dL_law_485 rfl (lv_at hl 0 rfl) ?_
  refine lv_iload_n hx hb dL_law_486 rfl (lv_at hl 3 rfl) ?_
  refine lv_iconst (v := (1 : Int32)) hx hb dL_law_487 (by decide) ?_
  refine lv_iadd hx hb dL_law_488 ?_
  refine va_sld (i := (nI i + (1 : Int32))) hx hb hX hbl hbA hS (vp_at (k := 1) (by omega) hL) dL_law_489 ?_
  refine lv_aload_n hx hb dL_law_490 rfl (lv_at hl 0 rfl) ?_
  refine lv_iload_n hx hb dL_law_491 rfl (lv_at hl 3 rfl) ?_
  refine lv_iconst (v := (2 : Int32)) hx hb dL_law_492 (by decide) ?_
  refine lv_iadd hx hb dL_law_493 ?_
  refine va_sld (i := (nI i + (2 : Int32))) hx hb hX hbl hbA hS (vp_at (k := 2) (by omega) hL) dL_law_494 ?_
  refine lawI (As := [.int (xs (nI i + (1 : Int32)).toNatClampNeg), .int (xs (nI i + (2 : Int32)).toNatClampNeg)]) (rest := []) (ci := 6) (n := 2) mw22_20 mw22_21 mw22_22 mw1_2 mw22_23 rfl rfl hd_X6_why hx hb hml hown hG hKX g2 ⟨Nat.le_of_ble_eq_true rfl, Nat.le_of_ble_eq_true rfl⟩ hc hP hD hS hA g1 rfl hl.1 rfl (Nat.le_of_ble_eq_true rfl) dL_law_495 (fun H locs hP hD hS => ?_)
  refine lv_aload_n hx hb dL_law_498 rfl (lv_at hl 2 rfl) ?_
  refine lv_aload_n hx hb dL_law_499 rfl (lv_at hl 0 rfl) ?_
  refine lv_iload_n hx hb dL_law_500 rfl (lv_at hl 3 rfl) ?_
  refine lv_iconst (v := (1 : Int32)) hx hb dL_law_501 (by decide) ?_
  refine lv_iadd hx hb dL_law_502 ?_
  refine va_sld (i := (nI i + (1 : Int32))) hx hb hX hbl hbA hS (vp_at (k := 1) (by omega) hL) dL_law_503 ?_
  refine lv_aload_n hx hb dL_law_504 rfl (lv_at hl 0 rfl) ?_
  refine lv_iload_n hx hb dL_law_505 rfl (lv_at hl 3 rfl) ?_
  refine lv_iconst (v := (2 : Int32)) hx hb dL_law_506 (by decide) ?_
  refine lv_iadd hx hb dL_law_507 ?_
  refine va_sld (i := (nI i + (2 : Int32))) hx hb hX hbl hbA hS (vp_at (k := 2) (by omega) hL) dL_law_508 ?_
  refine lawI (As := [.int (xs (nI i + (1 : Int32)).toNatClampNeg), .int (xs (nI i + (2 : Int32)).toNatClampNeg)]) (rest := [.int ρ]) (ci := 7) (n := 2) mw23_18 mw23_19 mw23_20 mw1_5 mw23_21 rfl rfl hd_X7_why hx hb hml hown hG hKX g4 ⟨Nat.le_of_ble_eq_true rfl, Nat.le_of_ble_eq_true rfl⟩ hc hP hD hS hA g3 rfl hl.1 rfl (Nat.le_of_ble_eq_true rfl) dL_law_509 (fun H locs hP hD hS => ?_)
  refine lv_icmp_eq (tgt := 1108) hx hb dL_law_512 (by decide) (fun _ => ?_) (fun h => absurd rfl h)
  exact kk W2 H locs g5 hP hD hS
set_option maxHeartbeats 4000000 in
set_option maxRecDepth 100000 in
theorem lc_11 {p : Program} {l : Launch} {e : Env} {s : State} {m : MethodId} {below : List Frame} {meth : Method} {c : Code} {D : va_G} {cy : Nat → ClassId} {b L : Nat} {xs : Nat → Int32} (C0 : lw_At p s m meth c b L xs) (hG : ∀ w ∈ GW, w.before #[Value.ref b] s = true) (hKX : KX D cy s) {i : Nat} (hi : i + 6 ≤ L) (hL : L ≤ 3072) {x m7 : Nat} {W0 : va_W} (hI : INV cy x m7 W0) {cells slots : Nat} (hc : cells ≤ room_1.cells ∧ slots ≤ room_1.slots) {H : Heap} {locs : List Loc} {ls : Array Slot} (hP : va_P D vwCl W0 H) (hD : va_D (fun q : Nat => s.heap.size ≤ q) W0) (hS : va_S (fun q : Nat => s.heap.size ≤ q) s.heap H locs) (hl : lv_has ls 4 [(0, .ref b), (1, .ref x), (2, .ref m7), (3, .int (nI i))]) (kk : ∀ (W' : va_W) (H' : Heap) (locs' : List Loc), INV cy x m7 W' → va_P D vwCl W' H' → va_D (fun q : Nat => s.heap.size ≤ q) W' → va_S (fun q : Nat => s.heap.size ≤ q) s.heap H' locs' → W p l e room_1 s m #[Value.ref b] below meth c H' locs' cells slots (lw_Z below #[Value.ref b] s) (F0 m 1108 ls [])) : W p l e room_1 s m #[Value.ref b] below meth c H locs cells slots (lw_Z below #[Value.ref b] s) (F0 m 517 ls []) := by
  obtain ⟨hx, hb, hr, hml, hown, hts, hX, hbl, hlocks, hgv⟩ := C0
  have hA : ∀ q : Nat, s.heap.size ≤ q → (fun q : Nat => s.heap.size ≤ q) q := fun _ h => h
  have hbA : ¬ (fun q : Nat => s.heap.size ≤ q) b := Nat.not_le.mpr hbl
  obtain ⟨ρ, W1, W2, f6, f7, g1, g2, g3, g4, g5⟩ := opx_net l D cy hI (xs (nI i + (1 : Int32)).toNatClampNeg) (xs (nI i + (2 : Int32)).toNatClampNeg)
  refine lv_aload_n hx hb dL_law_517 rfl (lv_at hl 1 rfl) ?_
  refine lv_aload_n hx hb dL_law_518 rfl (lv_at hl 0 rfl) ?_
  refine lv_iload_n hx hb dL_law_519 rfl (lv_at hl 3 rfl) ?_
  refine lv_iconst (v := (1 : Int32)) hx hb dL_law_520 (by decide) ?_
  refine lv_iadd hx hb dL_law_521 ?_
  refine va_sld (i := (nI i + (1 : Int32))) hx hb hX hbl hbA hS (vp_at (k := 1) (by omega) hL) dL_law_522 ?_
  refine lv_aload_n hx hb dL_law_523 rfl (lv_at hl 0 rfl) ?_
  refine lv_iload_n hx hb dL_law_524 rfl (lv_at hl 3 rfl) ?_
  refine lv_iconst (v := (2 : Int32)) hx hb dL_law_525 (by decide) ?_
  refine lv_iadd hx hb dL_law_526 ?_
  refine va_sld (i := (nI i + (2 : Int32))) hx hb hX hbl hbA hS (vp_at (k := 2) (by omega) hL) dL_law_527 ?_
  refine lawI (As := [.int (xs (nI i + (1 : Int32)).toNatClampNeg), .int (xs (nI i + (2 : Int32)).toNatClampNeg)]) (rest := []) (ci := 6) (n := 2) mw24_10 mw24_11 mw24_12 mw1_2 mw24_13 rfl rfl hd_X6_net hx hb hml hown hG hKX g2 ⟨Nat.le_of_ble_eq_true rfl, Nat.le_of_ble_eq_true rfl⟩ hc hP hD hS hA g1 rfl hl.1 rfl (Nat.le_of_ble_eq_true rfl) dL_law_528 (fun H locs hP hD hS => ?_)
  refine lv_aload_n hx hb dL_law_531 rfl (lv_at hl 2 rfl) ?_
  refine lv_aload_n hx hb dL_law_532 rfl (lv_at hl 0 rfl) ?_
  refine lv_iload_n hx hb dL_law_533 rfl (lv_at hl 3 rfl) ?_
  refine lv_iconst (v := (1 : Int32)) hx hb dL_law_534 (by decide) ?_
  refine lv_iadd hx hb dL_law_535 ?_
  refine va_sld (i := (nI i + (1 : Int32))) hx hb hX hbl hbA hS (vp_at (k := 1) (by omega) hL) dL_law_536 ?_
  refine lv_aload_n hx hb dL_law_537 rfl (lv_at hl 0 rfl) ?_
  refine lv_iload_n hx hb dL_law_538 rfl (lv_at hl 3 rfl) ?_
  refine lv_iconst (v := (2 : Int32)) hx hb dL_law_539 (by decide) ?_
  refine lv_iadd hx hb dL_law_540 ?_
  refine va_sld (i := (nI i + (2 : Int32))) hx hb hX hbl hbA hS (vp_at (k := 2) (by omega) hL) dL_law_541 ?_
  refine lawI (As := [.int (xs (nI i + (1 : Int32)).toNatClampNeg), .int (xs (nI i + (2 : Int32)).toNatClampNeg)]) (rest := [.int ρ]) (ci := 7) (n := 2) mw24_19 mw24_20 mw24_21 mw1_5 mw24_22 rfl rfl hd_X7_net hx hb hml hown hG hKX g4 ⟨Nat.le_of_ble_eq_true rfl, Nat.le_of_ble_eq_true rfl⟩ hc hP hD hS hA g3 rfl hl.1 rfl (Nat.le_of_ble_eq_true rfl) dL_law_542 (fun H locs hP hD hS => ?_)
  refine lv_icmp_eq (tgt := 1108) hx hb dL_law_545 (by decide) (fun _ => ?_) (fun h => absurd rfl h)
  exact kk W2 H locs g5 hP hD hS
set_option maxHeartbeats 4000000 in
set_option maxRecDepth 100000 in
theorem lc_12 {p : Program} {l : Launch} {e : Env} {s : State} {m : MethodId} {below : List Frame} {meth : Method} {c : Code} {D : va_G} {cy : Nat → ClassId} {b L : Nat} {xs : Nat → Int32} (C0 : lw_At p s m meth c b L xs) (hG : ∀ w ∈ GW, w.before #[Value.ref b] s = true) (hKX : KX D cy s) {i : Nat} (hi : i + 6 ≤ L) (hL : L ≤ 3072) {x m7 : Nat} {W0 : va_W} (hI : INV cy x m7 W0) {cells slots : Nat} (hc : cells ≤ room_1.cells ∧ slots ≤ room_1.slots) {H : Heap} {locs : List Loc} {ls : Array Slot} (hP : va_P D vwCl W0 H) (hD : va_D (fun q : Nat => s.heap.size ≤ q) W0) (hS : va_S (fun q : Nat => s.heap.size ≤ q) s.heap H locs) (hl : lv_has ls 4 [(0, .ref b), (1, .ref x), (2, .ref m7), (3, .int (nI i))]) (kk : ∀ (W' : va_W) (H' : Heap) (locs' : List Loc), INV cy x m7 W' → va_P D vwCl W' H' → va_D (fun q : Nat => s.heap.size ≤ q) W' → va_S (fun q : Nat => s.heap.size ≤ q) s.heap H' locs' → W p l e room_1 s m #[Value.ref b] below meth c H' locs' cells slots (lw_Z below #[Value.ref b] s) (F0 m 1108 ls [])) : W p l e room_1 s m #[Value.ref b] below meth c H locs cells slots (lw_Z below #[Value.ref b] s) (F0 m 550 ls []) := by
  obtain ⟨hx, hb, hr, hml, hown, hts, hX, hbl, hlocks, hgv⟩ := C0
  have hA : ∀ q : Nat, s.heap.size ≤ q → (fun q : Nat => s.heap.size ≤ q) q := fun _ h => h
  have hbA : ¬ (fun q : Nat => s.heap.size ≤ q) b := Nat.not_le.mpr hbl
  obtain ⟨ρ, W1, W2, f6, f7, g1, g2, g3, g4, g5⟩ := opx_more l D cy hI (xs (nI i + (1 : Int32)).toNatClampNeg)
  refine lv_aload_n hx hb dL_law_550 rfl (lv_at hl 1 rfl) ?_
  refine lv_aload_n hx hb dL_law_551 rfl (lv_at hl 0 rfl) ?_
  refine lv_iload_n hx hb dL_law_552 rfl (lv_at hl 3 rfl) ?_
  refine lv_iconst (v := (1 : Int32)) hx hb dL_law_553 (by decide) ?_
  refine lv_iadd hx hb dL_law_554 ?_
  refine va_sld (i := (nI i + (1 : Int32))) hx hb hX hbl hbA hS (vp_at (k := 1) (by omega) hL) dL_law_555 ?_
  refine lawJ (As := [.int (xs (nI i + (1 : Int32)).toNatClampNeg)]) (rest := []) (ci := 6) (n := 1) mw25_0 mw25_1 mw25_2 mw1_2 mw25_3 rfl rfl hd_X6_more hx hb hml hown hG hKX g2 ⟨Nat.le_of_ble_eq_true rfl, Nat.le_of_ble_eq_true rfl⟩ hc hP hD hS hA g1 rfl hl.1 rfl (Nat.le_of_ble_eq_true rfl) dL_law_556 (fun H locs hP hD hS => ?_)
  refine lv_aload_n hx hb dL_law_559 rfl (lv_at hl 2 rfl) ?_
  refine lv_aload_n hx hb dL_law_560 rfl (lv_at hl 0 rfl) ?_
  refine lv_iload_n hx hb dL_law_561 rfl (lv_at hl 3 rfl) ?_
  refine lv_iconst (v := (1 : Int32)) hx hb dL_law_562 (by decide) ?_
  refine lv_iadd hx hb dL_law_563 ?_
  refine va_sld (i := (nI i + (1 : Int32))) hx hb hX hbl hbA hS (vp_at (k := 1) (by omega) hL) dL_law_564 ?_
  refine lawJ (As := [.int (xs (nI i + (1 : Int32)).toNatClampNeg)]) (rest := [.long ρ]) (ci := 7) (n := 1) mw25_6 mw25_7 mw25_8 mw1_5 mw25_9 rfl rfl hd_X7_more hx hb hml hown hG hKX g4 ⟨Nat.le_of_ble_eq_true rfl, Nat.le_of_ble_eq_true rfl⟩ hc hP hD hS hA g3 rfl hl.1 rfl (Nat.le_of_ble_eq_true rfl) dL_law_565 (fun H locs hP hD hS => ?_)
  refine W.lcmp hx hb dL_law_568 ?_
  refine lv_if_eq (tgt := 1108) hx hb dL_law_569 (by decide) (fun _ => ?_) (fun h => absurd (lgc_eq.mpr rfl) h)
  exact kk W2 H locs g5 hP hD hS
set_option maxHeartbeats 4000000 in
set_option maxRecDepth 100000 in
theorem lc_13 {p : Program} {l : Launch} {e : Env} {s : State} {m : MethodId} {below : List Frame} {meth : Method} {c : Code} {D : va_G} {cy : Nat → ClassId} {b L : Nat} {xs : Nat → Int32} (C0 : lw_At p s m meth c b L xs) (hG : ∀ w ∈ GW, w.before #[Value.ref b] s = true) (hKX : KX D cy s) {i : Nat} (hi : i + 6 ≤ L) (hL : L ≤ 3072) {x m7 : Nat} {W0 : va_W} (hI : INV cy x m7 W0) {cells slots : Nat} (hc : cells ≤ room_1.cells ∧ slots ≤ room_1.slots) {H : Heap} {locs : List Loc} {ls : Array Slot} (hP : va_P D vwCl W0 H) (hD : va_D (fun q : Nat => s.heap.size ≤ q) W0) (hS : va_S (fun q : Nat => s.heap.size ≤ q) s.heap H locs) (hl : lv_has ls 4 [(0, .ref b), (1, .ref x), (2, .ref m7), (3, .int (nI i))]) (kk : ∀ (W' : va_W) (H' : Heap) (locs' : List Loc), INV cy x m7 W' → va_P D vwCl W' H' → va_D (fun q : Nat => s.heap.size ≤ q) W' → va_S (fun q : Nat => s.heap.size ≤ q) s.heap H' locs' → W p l e room_1 s m #[Value.ref b] below meth c H' locs' cells slots (lw_Z below #[Value.ref b] s) (F0 m 1108 ls [])) : W p l e room_1 s m #[Value.ref b] below meth c H locs cells slots (lw_Z below #[Value.ref b] s) (F0 m 574 ls []) := by
  obtain ⟨hx, hb, hr, hml, hown, hts, hX, hbl, hlocks, hgv⟩ := C0
  have hA : ∀ q : Nat, s.heap.size ≤ q → (fun q : Nat => s.heap.size ≤ q) q := fun _ h => h
  have hbA : ¬ (fun q : Nat => s.heap.size ≤ q) b := Nat.not_le.mpr hbl
  obtain ⟨ρ, W1, W2, f6, f7, g1, g2, g3, g4, g5⟩ := opx_from l D cy hI (xs (nI i + (1 : Int32)).toNatClampNeg)
  refine lv_aload_n hx hb dL_law_574 rfl (lv_at hl 1 rfl) ?_
  refine lv_aload_n hx hb dL_law_575 rfl (lv_at hl 0 rfl) ?_
  refine lv_iload_n hx hb dL_law_576 rfl (lv_at hl 3 rfl) ?_
  refine lv_iconst (v := (1 : Int32)) hx hb dL_law_577 (by decide) ?_
  refine lv_iadd hx hb dL_law_578 ?_
  refine va_sld (i := (nI i + (1 : Int32))) hx hb hX hbl hbA hS (vp_at (k := 1) (by omega) hL) dL_law_579 ?_
  refine lawI (As := [.int (xs (nI i + (1 : Int32)).toNatClampNeg)]) (rest := []) (ci := 6) (n := 1) mw25_15 mw25_16 mw25_17 mw1_2 mw25_18 rfl rfl hd_X6_from hx hb hml hown hG hKX g2 ⟨Nat.le_of_ble_eq_true rfl, Nat.le_of_ble_eq_true rfl⟩ hc hP hD hS hA g1 rfl hl.1 rfl (Nat.le_of_ble_eq_true rfl) dL_law_580 (fun H locs hP hD hS => ?_)
  refine lv_aload_n hx hb dL_law_583 rfl (lv_at hl 2 rfl) ?_
  refine lv_aload_n hx hb dL_law_584 rfl (lv_at hl 0 rfl) ?_
  refine lv_iload_n hx hb dL_law_585 rfl (lv_at hl 3 rfl) ?_
  refine lv_iconst (v := (1 : Int32)) hx hb dL_law_586 (by decide) ?_
  refine lv_iadd hx hb dL_law_587 ?_
  refine va_sld (i := (nI i + (1 : Int32))) hx hb hX hbl hbA hS (vp_at (k := 1) (by omega) hL) dL_law_588 ?_
  refine lawI (As := [.int (xs (nI i + (1 : Int32)).toNatClampNeg)]) (rest := [.int ρ]) (ci := 7) (n := 1) mw25_20 mw25_21 mw25_22 mw1_5 mw25_23 rfl rfl hd_X7_from hx hb hml hown hG hKX g4 ⟨Nat.le_of_ble_eq_true rfl, Nat.le_of_ble_eq_true rfl⟩ hc hP hD hS hA g3 rfl hl.1 rfl (Nat.le_of_ble_eq_true rfl) dL_law_589 (fun H locs hP hD hS => ?_)
  refine lv_icmp_eq (tgt := 1108) hx hb dL_law_592 (by decide) (fun _ => ?_) (fun h => absurd rfl h)
  exact kk W2 H locs g5 hP hD hS
set_option maxHeartbeats 4000000 in
set_option maxRecDepth 100000 in
theorem lc_14 {p : Program} {l : Launch} {e : Env} {s : State} {m : MethodId} {below : List Frame} {meth : Method} {c : Code} {D : va_G} {cy : Nat → ClassId} {b L : Nat} {xs : Nat → Int32} (C0 : lw_At p s m meth c b L xs) (hG : ∀ w ∈ GW, w.before #[Value.ref b] s = true) (hKX : KX D cy s) {i : Nat} (hi : i + 6 ≤ L) (hL : L ≤ 3072) {x m7 : Nat} {W0 : va_W} (hI : INV cy x m7 W0) {cells slots : Nat} (hc : cells ≤ room_1.cells ∧ slots ≤ room_1.slots) {H : Heap} {locs : List Loc} {ls : Array Slot} (hP : va_P D vwCl W0 H) (hD : va_D (fun q : Nat => s.heap.size ≤ q) W0) (hS : va_S (fun q : Nat => s.heap.size ≤ q) s.heap H locs) (hl : lv_has ls 4 [(0, .ref b), (1, .ref x), (2, .ref m7), (3, .int (nI i))]) (kk : ∀ (W' : va_W) (H' : Heap) (locs' : List Loc), INV cy x m7 W' → va_P D vwCl W' H' → va_D (fun q : Nat => s.heap.size ≤ q) W' → va_S (fun q : Nat => s.heap.size ≤ q) s.heap H' locs' → W p l e room_1 s m #[Value.ref b] below meth c H' locs' cells slots (lw_Z below #[Value.ref b] s) (F0 m 1108 ls [])) : W p l e room_1 s m #[Value.ref b] below meth c H locs cells slots (lw_Z below #[Value.ref b] s) (F0 m 597 ls []) := by
  obtain ⟨hx, hb, hr, hml, hown, hts, hX, hbl, hlocks, hgv⟩ := C0
  have hA : ∀ q : Nat, s.heap.size ≤ q → (fun q : Nat => s.heap.size ≤ q) q := fun _ h => h
  have hbA : ¬ (fun q : Nat => s.heap.size ≤ q) b := Nat.not_le.mpr hbl
  obtain ⟨ρ, W1, W2, f6, f7, g1, g2, g3, g4, g5⟩ := opx_see l D cy hI (xs (nI i + (1 : Int32)).toNatClampNeg) (xs (nI i + (2 : Int32)).toNatClampNeg)
  refine lv_aload_n hx hb dL_law_597 rfl (lv_at hl 1 rfl) ?_
  refine lv_aload_n hx hb dL_law_598 rfl (lv_at hl 0 rfl) ?_
  refine lv_iload_n hx hb dL_law_599 rfl (lv_at hl 3 rfl) ?_
  refine lv_iconst (v := (1 : Int32)) hx hb dL_law_600 (by decide) ?_
  refine lv_iadd hx hb dL_law_601 ?_
  refine va_sld (i := (nI i + (1 : Int32))) hx hb hX hbl hbA hS (vp_at (k := 1) (by omega) hL) dL_law_602 ?_
  refine lv_aload_n hx hb dL_law_603 rfl (lv_at hl 0 rfl) ?_
  refine lv_iload_n hx hb dL_law_604 rfl (lv_at hl 3 rfl) ?_
  refine lv_iconst (v := (2 : Int32)) hx hb dL_law_605 (by decide) ?_
  refine lv_iadd hx hb dL_law_606 ?_
  refine va_sld (i := (nI i + (2 : Int32))) hx hb hX hbl hbA hS (vp_at (k := 2) (by omega) hL) dL_law_607 ?_
  refine lawI (As := [.int (xs (nI i + (1 : Int32)).toNatClampNeg), .int (xs (nI i + (2 : Int32)).toNatClampNeg)]) (rest := []) (ci := 6) (n := 2) mw26_0 mw26_1 mw26_2 mw1_2 mw26_3 rfl rfl hd_X6_see hx hb hml hown hG hKX g2 ⟨Nat.le_of_ble_eq_true rfl, Nat.le_of_ble_eq_true rfl⟩ hc hP hD hS hA g1 rfl hl.1 rfl (Nat.le_of_ble_eq_true rfl) dL_law_608 (fun H locs hP hD hS => ?_)
  refine lv_aload_n hx hb dL_law_611 rfl (lv_at hl 2 rfl) ?_
  refine lv_aload_n hx hb dL_law_612 rfl (lv_at hl 0 rfl) ?_
  refine lv_iload_n hx hb dL_law_613 rfl (lv_at hl 3 rfl) ?_
  refine lv_iconst (v := (1 : Int32)) hx hb dL_law_614 (by decide) ?_
  refine lv_iadd hx hb dL_law_615 ?_
  refine va_sld (i := (nI i + (1 : Int32))) hx hb hX hbl hbA hS (vp_at (k := 1) (by omega) hL) dL_law_616 ?_
  refine lv_aload_n hx hb dL_law_617 rfl (lv_at hl 0 rfl) ?_
  refine lv_iload_n hx hb dL_law_618 rfl (lv_at hl 3 rfl) ?_
  refine lv_iconst (v := (2 : Int32)) hx hb dL_law_619 (by decide) ?_
  refine lv_iadd hx hb dL_law_620 ?_
  refine va_sld (i := (nI i + (2 : Int32))) hx hb hX hbl hbA hS (vp_at (k := 2) (by omega) hL) dL_law_621 ?_
  refine lawI (As := [.int (xs (nI i + (1 : Int32)).toNatClampNeg), .int (xs (nI i + (2 : Int32)).toNatClampNeg)]) (rest := [.int ρ]) (ci := 7) (n := 2) mw26_18 mw26_19 mw26_20 mw1_5 mw26_21 rfl rfl hd_X7_see hx hb hml hown hG hKX g4 ⟨Nat.le_of_ble_eq_true rfl, Nat.le_of_ble_eq_true rfl⟩ hc hP hD hS hA g3 rfl hl.1 rfl (Nat.le_of_ble_eq_true rfl) dL_law_622 (fun H locs hP hD hS => ?_)
  refine lv_icmp_eq (tgt := 1108) hx hb dL_law_625 (by decide) (fun _ => ?_) (fun h => absurd rfl h)
  exact kk W2 H locs g5 hP hD hS
set_option maxHeartbeats 4000000 in
set_option maxRecDepth 100000 in
theorem lc_15 {p : Program} {l : Launch} {e : Env} {s : State} {m : MethodId} {below : List Frame} {meth : Method} {c : Code} {D : va_G} {cy : Nat → ClassId} {b L : Nat} {xs : Nat → Int32} (C0 : lw_At p s m meth c b L xs) (hG : ∀ w ∈ GW, w.before #[Value.ref b] s = true) (hKX : KX D cy s) {i : Nat} (hi : i + 6 ≤ L) (hL : L ≤ 3072) {x m7 : Nat} {W0 : va_W} (hI : INV cy x m7 W0) {cells slots : Nat} (hc : cells ≤ room_1.cells ∧ slots ≤ room_1.slots) {H : Heap} {locs : List Loc} {ls : Array Slot} (hP : va_P D vwCl W0 H) (hD : va_D (fun q : Nat => s.heap.size ≤ q) W0) (hS : va_S (fun q : Nat => s.heap.size ≤ q) s.heap H locs) (hl : lv_has ls 4 [(0, .ref b), (1, .ref x), (2, .ref m7), (3, .int (nI i))]) (kk : ∀ (W' : va_W) (H' : Heap) (locs' : List Loc), INV cy x m7 W' → va_P D vwCl W' H' → va_D (fun q : Nat => s.heap.size ≤ q) W' → va_S (fun q : Nat => s.heap.size ≤ q) s.heap H' locs' → W p l e room_1 s m #[Value.ref b] below meth c H' locs' cells slots (lw_Z below #[Value.ref b] s) (F0 m 1108 ls [])) : W p l e room_1 s m #[Value.ref b] below meth c H locs cells slots (lw_Z below #[Value.ref b] s) (F0 m 630 ls []) := by
  obtain ⟨hx, hb, hr, hml, hown, hts, hX, hbl, hlocks, hgv⟩ := C0
  have hA : ∀ q : Nat, s.heap.size ≤ q → (fun q : Nat => s.heap.size ≤ q) q := fun _ h => h
  have hbA : ¬ (fun q : Nat => s.heap.size ≤ q) b := Nat.not_le.mpr hbl
  obtain ⟨ρ, W1, W2, f6, f7, g1, g2, g3, g4, g5⟩ := opx_fits l D cy hI (xs (nI i + (1 : Int32)).toNatClampNeg)
  refine lv_aload_n hx hb dL_law_630 rfl (lv_at hl 1 rfl) ?_
  refine lv_aload_n hx hb dL_law_631 rfl (lv_at hl 0 rfl) ?_
  refine lv_iload_n hx hb dL_law_632 rfl (lv_at hl 3 rfl) ?_
  refine lv_iconst (v := (1 : Int32)) hx hb dL_law_633 (by decide) ?_
  refine lv_iadd hx hb dL_law_634 ?_
  refine va_sld (i := (nI i + (1 : Int32))) hx hb hX hbl hbA hS (vp_at (k := 1) (by omega) hL) dL_law_635 ?_
  refine lawI (As := [.int (xs (nI i + (1 : Int32)).toNatClampNeg)]) (rest := []) (ci := 6) (n := 1) mw26_22 mw26_23 mw27_0 mw1_2 mw27_1 rfl rfl hd_X6_fits hx hb hml hown hG hKX g2 ⟨Nat.le_of_ble_eq_true rfl, Nat.le_of_ble_eq_true rfl⟩ hc hP hD hS hA g1 rfl hl.1 rfl (Nat.le_of_ble_eq_true rfl) dL_law_636 (fun H locs hP hD hS => ?_)
  refine lv_aload_n hx hb dL_law_639 rfl (lv_at hl 2 rfl) ?_
  refine lv_aload_n hx hb dL_law_640 rfl (lv_at hl 0 rfl) ?_
  refine lv_iload_n hx hb dL_law_641 rfl (lv_at hl 3 rfl) ?_
  refine lv_iconst (v := (1 : Int32)) hx hb dL_law_642 (by decide) ?_
  refine lv_iadd hx hb dL_law_643 ?_
  refine va_sld (i := (nI i + (1 : Int32))) hx hb hX hbl hbA hS (vp_at (k := 1) (by omega) hL) dL_law_644 ?_
  refine lawI (As := [.int (xs (nI i + (1 : Int32)).toNatClampNeg)]) (rest := [.int ρ]) (ci := 7) (n := 1) mw27_9 mw27_10 mw27_11 mw1_5 mw27_12 rfl rfl hd_X7_fits hx hb hml hown hG hKX g4 ⟨Nat.le_of_ble_eq_true rfl, Nat.le_of_ble_eq_true rfl⟩ hc hP hD hS hA g3 rfl hl.1 rfl (Nat.le_of_ble_eq_true rfl) dL_law_645 (fun H locs hP hD hS => ?_)
  refine lv_icmp_eq (tgt := 1108) hx hb dL_law_648 (by decide) (fun _ => ?_) (fun h => absurd rfl h)
  exact kk W2 H locs g5 hP hD hS
