/-! the law, call by call -/
set_option maxHeartbeats 4000000 in
set_option maxRecDepth 100000 in
theorem lc_24 {p : Program} {l : Launch} {e : Env} {s : State} {m : MethodId} {below : List Frame} {meth : Method} {c : Code} {D : va_G} {cy : Nat → ClassId} {b L : Nat} {xs : Nat → Int32} (C0 : lw_At p s m meth c b L xs) (hG : ∀ w ∈ GW, w.before #[Value.ref b] s = true) (hKX : KX D cy s) {i : Nat} (hi : i + 6 ≤ L) (hL : L ≤ 3072) {x m7 : Nat} {W0 : va_W} (hI : INV cy x m7 W0) {cells slots : Nat} (hc : cells ≤ room_1.cells ∧ slots ≤ room_1.slots) {H : Heap} {locs : List Loc} {ls : Array Slot} (hP : va_P D vwCl W0 H) (hD : va_D (fun q : Nat => s.heap.size ≤ q) W0) (hS : va_S (fun q : Nat => s.heap.size ≤ q) s.heap H locs) (hl : lv_has ls 4 [(0, .ref b), (1, .ref x), (2, .ref m7), (3, .int (nI i))]) (kk : ∀ (W' : va_W) (H' : Heap) (locs' : List Loc), INV cy x m7 W' → va_P D vwCl W' H' → va_D (fun q : Nat => s.heap.size ≤ q) W' → va_S (fun q : Nat => s.heap.size ≤ q) s.heap H' locs' → W p l e room_1 s m #[Value.ref b] below meth c H' locs' cells slots (lw_Z below #[Value.ref b] s) (F0 m 1108 ls [])) : W p l e room_1 s m #[Value.ref b] below meth c H locs cells slots (lw_Z below #[Value.ref b] s) (F0 m 859 ls []) := by
  obtain ⟨hx, hb, hr, hml, hown, hts, hX, hbl, hlocks, hgv⟩ := C0
  have hA : ∀ q : Nat, s.heap.size ≤ q → (fun q : Nat => s.heap.size ≤ q) q := fun _ h => h
  have hbA : ¬ (fun q : Nat => s.heap.size ≤ q) b := Nat.not_le.mpr hbl
  obtain ⟨ρ, W1, W2, f6, f7, g1, g2, g3, g4, g5⟩ := opx_undo l D cy hI
  refine lv_aload_n hx hb dL_law_859 rfl (lv_at hl 1 rfl) ?_
  refine lawI (As := []) (rest := []) (ci := 6) (n := 0) mw33_3 mw33_4 mw33_5 mw1_2 mw33_6 rfl rfl hd_X6_undo hx hb hml hown hG hKX g2 ⟨Nat.le_of_ble_eq_true rfl, Nat.le_of_ble_eq_true rfl⟩ hc hP hD hS hA g1 rfl hl.1 rfl (Nat.le_of_ble_eq_true rfl) dL_law_860 (fun H locs hP hD hS => ?_)
  refine lv_aload_n hx hb dL_law_863 rfl (lv_at hl 2 rfl) ?_
  refine lawI (As := []) (rest := [.int ρ]) (ci := 7) (n := 0) mw33_7 mw33_8 mw33_9 mw1_5 mw33_10 rfl rfl hd_X7_undo hx hb hml hown hG hKX g4 ⟨Nat.le_of_ble_eq_true rfl, Nat.le_of_ble_eq_true rfl⟩ hc hP hD hS hA g3 rfl hl.1 rfl (Nat.le_of_ble_eq_true rfl) dL_law_864 (fun H locs hP hD hS => ?_)
  refine lv_icmp_eq (tgt := 1108) hx hb dL_law_867 (by decide) (fun _ => ?_) (fun h => absurd rfl h)
  exact kk W2 H locs g5 hP hD hS
set_option maxHeartbeats 4000000 in
set_option maxRecDepth 100000 in
theorem lc_25 {p : Program} {l : Launch} {e : Env} {s : State} {m : MethodId} {below : List Frame} {meth : Method} {c : Code} {D : va_G} {cy : Nat → ClassId} {b L : Nat} {xs : Nat → Int32} (C0 : lw_At p s m meth c b L xs) (hG : ∀ w ∈ GW, w.before #[Value.ref b] s = true) (hKX : KX D cy s) {i : Nat} (hi : i + 6 ≤ L) (hL : L ≤ 3072) {x m7 : Nat} {W0 : va_W} (hI : INV cy x m7 W0) {cells slots : Nat} (hc : cells ≤ room_1.cells ∧ slots ≤ room_1.slots) {H : Heap} {locs : List Loc} {ls : Array Slot} (hP : va_P D vwCl W0 H) (hD : va_D (fun q : Nat => s.heap.size ≤ q) W0) (hS : va_S (fun q : Nat => s.heap.size ≤ q) s.heap H locs) (hl : lv_has ls 4 [(0, .ref b), (1, .ref x), (2, .ref m7), (3, .int (nI i))]) (kk : ∀ (W' : va_W) (H' : Heap) (locs' : List Loc), INV cy x m7 W' → va_P D vwCl W' H' → va_D (fun q : Nat => s.heap.size ≤ q) W' → va_S (fun q : Nat => s.heap.size ≤ q) s.heap H' locs' → W p l e room_1 s m #[Value.ref b] below meth c H' locs' cells slots (lw_Z below #[Value.ref b] s) (F0 m 1108 ls [])) : W p l e room_1 s m #[Value.ref b] below meth c H locs cells slots (lw_Z below #[Value.ref b] s) (F0 m 872 ls []) := by
  obtain ⟨hx, hb, hr, hml, hown, hts, hX, hbl, hlocks, hgv⟩ := C0
  have hA : ∀ q : Nat, s.heap.size ≤ q → (fun q : Nat => s.heap.size ≤ q) q := fun _ h => h
  have hbA : ¬ (fun q : Nat => s.heap.size ≤ q) b := Nat.not_le.mpr hbl
  obtain ⟨ρ, W1, W2, f6, f7, g1, g2, g3, g4, g5⟩ := opx_count l D cy hI (xs (nI i + (1 : Int32)).toNatClampNeg)
  refine lv_aload_n hx hb dL_law_872 rfl (lv_at hl 1 rfl) ?_
  refine lv_aload_n hx hb dL_law_873 rfl (lv_at hl 0 rfl) ?_
  refine lv_iload_n hx hb dL_law_874 rfl (lv_at hl 3 rfl) ?_
  refine lv_iconst (v := (1 : Int32)) hx hb dL_law_875 (by decide) ?_
  refine lv_iadd hx hb dL_law_876 ?_
  refine va_sld (i := (nI i + (1 : Int32))) hx hb hX hbl hbA hS (vp_at (k := 1) (by omega) hL) dL_law_877 ?_
  refine lawI (As := [.int (xs (nI i + (1 : Int32)).toNatClampNeg)]) (rest := []) (ci := 6) (n := 1) mw33_11 mw33_12 mw33_13 mw1_2 mw33_14 rfl rfl hd_X6_count hx hb hml hown hG hKX g2 ⟨Nat.le_of_ble_eq_true rfl, Nat.le_of_ble_eq_true rfl⟩ hc hP hD hS hA g1 rfl hl.1 rfl (Nat.le_of_ble_eq_true rfl) dL_law_878 (fun H locs hP hD hS => ?_)
  refine lv_aload_n hx hb dL_law_881 rfl (lv_at hl 2 rfl) ?_
  refine lv_aload_n hx hb dL_law_882 rfl (lv_at hl 0 rfl) ?_
  refine lv_iload_n hx hb dL_law_883 rfl (lv_at hl 3 rfl) ?_
  refine lv_iconst (v := (1 : Int32)) hx hb dL_law_884 (by decide) ?_
  refine lv_iadd hx hb dL_law_885 ?_
  refine va_sld (i := (nI i + (1 : Int32))) hx hb hX hbl hbA hS (vp_at (k := 1) (by omega) hL) dL_law_886 ?_
  refine lawI (As := [.int (xs (nI i + (1 : Int32)).toNatClampNeg)]) (rest := [.int ρ]) (ci := 7) (n := 1) mw33_16 mw33_17 mw33_18 mw1_5 mw33_19 rfl rfl hd_X7_count hx hb hml hown hG hKX g4 ⟨Nat.le_of_ble_eq_true rfl, Nat.le_of_ble_eq_true rfl⟩ hc hP hD hS hA g3 rfl hl.1 rfl (Nat.le_of_ble_eq_true rfl) dL_law_887 (fun H locs hP hD hS => ?_)
  refine lv_icmp_eq (tgt := 1108) hx hb dL_law_890 (by decide) (fun _ => ?_) (fun h => absurd rfl h)
  exact kk W2 H locs g5 hP hD hS
set_option maxHeartbeats 4000000 in
set_option maxRecDepth 100000 in
theorem lc_26 {p : Program} {l : Launch} {e : Env} {s : State} {m : MethodId} {below : List Frame} {meth : Method} {c : Code} {D : va_G} {cy : Nat → ClassId} {b L : Nat} {xs : Nat → Int32} (C0 : lw_At p s m meth c b L xs) (hG : ∀ w ∈ GW, w.before #[Value.ref b] s = true) (hKX : KX D cy s) {i : Nat} (hi : i + 6 ≤ L) (hL : L ≤ 3072) {x m7 : Nat} {W0 : va_W} (hI : INV cy x m7 W0) {cells slots : Nat} (hc : cells ≤ room_1.cells ∧ slots ≤ room_1.slots) {H : Heap} {locs : List Loc} {ls : Array Slot} (hP : va_P D vwCl W0 H) (hD : va_D (fun q : Nat => s.heap.size ≤ q) W0) (hS : va_S (fun q : Nat => s.heap.size ≤ q) s.heap H locs) (hl : lv_has ls 4 [(0, .ref b), (1, .ref x), (2, .ref m7), (3, .int (nI i))]) (kk : ∀ (W' : va_W) (H' : Heap) (locs' : List Loc), INV cy x m7 W' → va_P D vwCl W' H' → va_D (fun q : Nat => s.heap.size ≤ q) W' → va_S (fun q : Nat => s.heap.size ≤ q) s.heap H' locs' → W p l e room_1 s m #[Value.ref b] below meth c H' locs' cells slots (lw_Z below #[Value.ref b] s) (F0 m 1108 ls [])) : W p l e room_1 s m #[Value.ref b] below meth c H locs cells slots (lw_Z below #[Value.ref b] s) (F0 m 895 ls []) := by
  obtain ⟨hx, hb, hr, hml, hown, hts, hX, hbl, hlocks, hgv⟩ := C0
  have hA : ∀ q : Nat, s.heap.size ≤ q → (fun q : Nat => s.heap.size ≤ q) q := fun _ h => h
  have hbA : ¬ (fun q : Nat => s.heap.size ≤ q) b := Nat.not_le.mpr hbl
  obtain ⟨ρ, W1, W2, f6, f7, g1, g2, g3, g4, g5⟩ := opx_tape l D cy hI (xs (nI i + (1 : Int32)).toNatClampNeg) (xs (nI i + (2 : Int32)).toNatClampNeg) (xs (nI i + (3 : Int32)).toNatClampNeg)
  refine lv_aload_n hx hb dL_law_895 rfl (lv_at hl 1 rfl) ?_
  refine lv_aload_n hx hb dL_law_896 rfl (lv_at hl 0 rfl) ?_
  refine lv_iload_n hx hb dL_law_897 rfl (lv_at hl 3 rfl) ?_
  refine lv_iconst (v := (1 : Int32)) hx hb dL_law_898 (by decide) ?_
  refine lv_iadd hx hb dL_law_899 ?_
  refine va_sld (i := (nI i + (1 : Int32))) hx hb hX hbl hbA hS (vp_at (k := 1) (by omega) hL) dL_law_900 ?_
  refine lv_aload_n hx hb dL_law_901 rfl (lv_at hl 0 rfl) ?_
  refine lv_iload_n hx hb dL_law_902 rfl (lv_at hl 3 rfl) ?_
  refine lv_iconst (v := (2 : Int32)) hx hb dL_law_903 (by decide) ?_
  refine lv_iadd hx hb dL_law_904 ?_
  refine va_sld (i := (nI i + (2 : Int32))) hx hb hX hbl hbA hS (vp_at (k := 2) (by omega) hL) dL_law_905 ?_
  refine lv_aload_n hx hb dL_law_906 rfl (lv_at hl 0 rfl) ?_
  refine lv_iload_n hx hb dL_law_907 rfl (lv_at hl 3 rfl) ?_
  refine lv_iconst (v := (3 : Int32)) hx hb dL_law_908 (by decide) ?_
  refine lv_iadd hx hb dL_law_909 ?_
  refine va_sld (i := (nI i + (3 : Int32))) hx hb hX hbl hbA hS (vp_at (k := 3) (by omega) hL) dL_law_910 ?_
  refine lawI (As := [.int (xs (nI i + (1 : Int32)).toNatClampNeg), .int (xs (nI i + (2 : Int32)).toNatClampNeg), .int (xs (nI i + (3 : Int32)).toNatClampNeg)]) (rest := []) (ci := 6) (n := 3) mw33_20 mw33_21 mw33_22 mw1_2 mw33_23 rfl rfl hd_X6_tape hx hb hml hown hG hKX g2 ⟨Nat.le_of_ble_eq_true rfl, Nat.le_of_ble_eq_true rfl⟩ hc hP hD hS hA g1 rfl hl.1 rfl (Nat.le_of_ble_eq_true rfl) dL_law_911 (fun H locs hP hD hS => ?_)
  refine lv_aload_n hx hb dL_law_914 rfl (lv_at hl 2 rfl) ?_
  refine lv_aload_n hx hb dL_law_915 rfl (lv_at hl 0 rfl) ?_
  refine lv_iload_n hx hb dL_law_916 rfl (lv_at hl 3 rfl) ?_
  refine lv_iconst (v := (1 : Int32)) hx hb dL_law_917 (by decide) ?_
  refine lv_iadd hx hb dL_law_918 ?_
  refine va_sld (i := (nI i + (1 : Int32))) hx hb hX hbl hbA hS (vp_at (k := 1) (by omega) hL) dL_law_919 ?_
  refine lv_aload_n hx hb dL_law_920 rfl (lv_at hl 0 rfl) ?_
  refine lv_iload_n hx hb dL_law_921 rfl (lv_at hl 3 rfl) ?_
  refine lv_iconst (v := (2 : Int32)) hx hb dL_law_922 (by decide) ?_
  refine lv_iadd hx hb dL_law_923 ?_
  refine va_sld (i := (nI i + (2 : Int32))) hx hb hX hbl hbA hS (vp_at (k := 2) (by omega) hL) dL_law_924 ?_
  refine lv_aload_n hx hb dL_law_925 rfl (lv_at hl 0 rfl) ?_
  refine lv_iload_n hx hb dL_law_926 rfl (lv_at hl 3 rfl) ?_
  refine lv_iconst (v := (3 : Int32)) hx hb dL_law_927 (by decide) ?_
  refine lv_iadd hx hb dL_law_928 ?_
  refine va_sld (i := (nI i + (3 : Int32))) hx hb hX hbl hbA hS (vp_at (k := 3) (by omega) hL) dL_law_929 ?_
  refine lawI (As := [.int (xs (nI i + (1 : Int32)).toNatClampNeg), .int (xs (nI i + (2 : Int32)).toNatClampNeg), .int (xs (nI i + (3 : Int32)).toNatClampNeg)]) (rest := [.int ρ]) (ci := 7) (n := 3) mw34_7 mw34_8 mw34_9 mw1_5 mw34_10 rfl rfl hd_X7_tape hx hb hml hown hG hKX g4 ⟨Nat.le_of_ble_eq_true rfl, Nat.le_of_ble_eq_true rfl⟩ hc hP hD hS hA g3 rfl hl.1 rfl (Nat.le_of_ble_eq_true rfl) dL_law_930 (fun H locs hP hD hS => ?_)
  refine lv_icmp_eq (tgt := 1108) hx hb dL_law_933 (by decide) (fun _ => ?_) (fun h => absurd rfl h)
  exact kk W2 H locs g5 hP hD hS
set_option maxHeartbeats 4000000 in
set_option maxRecDepth 100000 in
theorem lc_27 {p : Program} {l : Launch} {e : Env} {s : State} {m : MethodId} {below : List Frame} {meth : Method} {c : Code} {D : va_G} {cy : Nat → ClassId} {b L : Nat} {xs : Nat → Int32} (C0 : lw_At p s m meth c b L xs) (hG : ∀ w ∈ GW, w.before #[Value.ref b] s = true) (hKX : KX D cy s) {i : Nat} (hi : i + 6 ≤ L) (hL : L ≤ 3072) {x m7 : Nat} {W0 : va_W} (hI : INV cy x m7 W0) {cells slots : Nat} (hc : cells ≤ room_1.cells ∧ slots ≤ room_1.slots) {H : Heap} {locs : List Loc} {ls : Array Slot} (hP : va_P D vwCl W0 H) (hD : va_D (fun q : Nat => s.heap.size ≤ q) W0) (hS : va_S (fun q : Nat => s.heap.size ≤ q) s.heap H locs) (hl : lv_has ls 4 [(0, .ref b), (1, .ref x), (2, .ref m7), (3, .int (nI i))]) (kk : ∀ (W' : va_W) (H' : Heap) (locs' : List Loc), INV cy x m7 W' → va_P D vwCl W' H' → va_D (fun q : Nat => s.heap.size ≤ q) W' → va_S (fun q : Nat => s.heap.size ≤ q) s.heap H' locs' → W p l e room_1 s m #[Value.ref b] below meth c H' locs' cells slots (lw_Z below #[Value.ref b] s) (F0 m 1108 ls [])) : W p l e room_1 s m #[Value.ref b] below meth c H locs cells slots (lw_Z below #[Value.ref b] s) (F0 m 938 ls []) := by
  obtain ⟨hx, hb, hr, hml, hown, hts, hX, hbl, hlocks, hgv⟩ := C0
  have hA : ∀ q : Nat, s.heap.size ≤ q → (fun q : Nat => s.heap.size ≤ q) q := fun _ h => h
  have hbA : ¬ (fun q : Nat => s.heap.size ≤ q) b := Nat.not_le.mpr hbl
  obtain ⟨ρ, W1, W2, f6, f7, g1, g2, g3, g4, g5⟩ := opx_item l D cy hI (xs (nI i + (1 : Int32)).toNatClampNeg) (xs (nI i + (2 : Int32)).toNatClampNeg) ((((xs (nI i + (3 : Int32)).toNatClampNeg).toInt64) <<< ((32 : Int32).toInt64 &&& 63)) ||| (((xs (nI i + (4 : Int32)).toNatClampNeg).toInt64) &&& (4294967295 : Int64)))
  refine lv_aload_n hx hb dL_law_938 rfl (lv_at hl 1 rfl) ?_
  refine lv_aload_n hx hb dL_law_939 rfl (lv_at hl 0 rfl) ?_
  refine lv_iload_n hx hb dL_law_940 rfl (lv_at hl 3 rfl) ?_
  refine lv_iconst (v := (1 : Int32)) hx hb dL_law_941 (by decide) ?_
  refine lv_iadd hx hb dL_law_942 ?_
  refine va_sld (i := (nI i + (1 : Int32))) hx hb hX hbl hbA hS (vp_at (k := 1) (by omega) hL) dL_law_943 ?_
  refine lv_aload_n hx hb dL_law_944 rfl (lv_at hl 0 rfl) ?_
  refine lv_iload_n hx hb dL_law_945 rfl (lv_at hl 3 rfl) ?_
  refine lv_iconst (v := (2 : Int32)) hx hb dL_law_946 (by decide) ?_
  refine lv_iadd hx hb dL_law_947 ?_
  refine va_sld (i := (nI i + (2 : Int32))) hx hb hX hbl hbA hS (vp_at (k := 2) (by omega) hL) dL_law_948 ?_
  refine lv_aload_n hx hb dL_law_949 rfl (lv_at hl 0 rfl) ?_
  refine lv_iload_n hx hb dL_law_950 rfl (lv_at hl 3 rfl) ?_
  refine lv_iconst (v := (3 : Int32)) hx hb dL_law_951 (by decide) ?_
  refine lv_iadd hx hb dL_law_952 ?_
  refine va_sld (i := (nI i + (3 : Int32))) hx hb hX hbl hbA hS (vp_at (k := 3) (by omega) hL) dL_law_953 ?_
  refine lv_i2l (v := (xs (nI i + (3 : Int32)).toNatClampNeg).toInt64) hx hb dL_law_954 rfl ?_
  refine lv_bipush (v := (32 : Int32)) hx hb dL_law_955 (by decide) ?_
  refine lv_lshl (v := (((xs (nI i + (3 : Int32)).toNatClampNeg).toInt64) <<< ((32 : Int32).toInt64 &&& 63))) hx hb dL_law_957 rfl ?_
  refine lv_aload_n hx hb dL_law_958 rfl (lv_at hl 0 rfl) ?_
  refine lv_iload_n hx hb dL_law_959 rfl (lv_at hl 3 rfl) ?_
  refine lv_iconst (v := (4 : Int32)) hx hb dL_law_960 (by decide) ?_
  refine lv_iadd hx hb dL_law_961 ?_
  refine va_sld (i := (nI i + (4 : Int32))) hx hb hX hbl hbA hS (vp_at (k := 4) (by omega) hL) dL_law_962 ?_
  refine lv_i2l (v := (xs (nI i + (4 : Int32)).toNatClampNeg).toInt64) hx hb dL_law_963 rfl ?_
  refine lv_ldc2 (v := (4294967295 : Int64)) hx hb hown (hG _ mw1_6) dL_law_964 ?_
  refine lv_land hx hb dL_law_967 ?_
  refine lv_lor hx hb dL_law_968 ?_
  refine lawI (As := [.int (xs (nI i + (1 : Int32)).toNatClampNeg), .int (xs (nI i + (2 : Int32)).toNatClampNeg), .long ((((xs (nI i + (3 : Int32)).toNatClampNeg).toInt64) <<< ((32 : Int32).toInt64 &&& 63)) ||| (((xs (nI i + (4 : Int32)).toNatClampNeg).toInt64) &&& (4294967295 : Int64)))]) (rest := []) (ci := 6) (n := 3) mw34_13 mw34_14 mw34_15 mw1_2 mw34_16 rfl rfl hd_X6_item hx hb hml hown hG hKX g2 ⟨Nat.le_of_ble_eq_true rfl, Nat.le_of_ble_eq_true rfl⟩ hc hP hD hS hA g1 rfl hl.1 rfl (Nat.le_of_ble_eq_true rfl) dL_law_969 (fun H locs hP hD hS => ?_)
  refine lv_aload_n hx hb dL_law_972 rfl (lv_at hl 2 rfl) ?_
  refine lv_aload_n hx hb dL_law_973 rfl (lv_at hl 0 rfl) ?_
  refine lv_iload_n hx hb dL_law_974 rfl (lv_at hl 3 rfl) ?_
  refine lv_iconst (v := (1 : Int32)) hx hb dL_law_975 (by decide) ?_
  refine lv_iadd hx hb dL_law_976 ?_
  refine va_sld (i := (nI i + (1 : Int32))) hx hb hX hbl hbA hS (vp_at (k := 1) (by omega) hL) dL_law_977 ?_
  refine lv_aload_n hx hb dL_law_978 rfl (lv_at hl 0 rfl) ?_
  refine lv_iload_n hx hb dL_law_979 rfl (lv_at hl 3 rfl) ?_
  refine lv_iconst (v := (2 : Int32)) hx hb dL_law_980 (by decide) ?_
  refine lv_iadd hx hb dL_law_981 ?_
  refine va_sld (i := (nI i + (2 : Int32))) hx hb hX hbl hbA hS (vp_at (k := 2) (by omega) hL) dL_law_982 ?_
  refine lv_aload_n hx hb dL_law_983 rfl (lv_at hl 0 rfl) ?_
  refine lv_iload_n hx hb dL_law_984 rfl (lv_at hl 3 rfl) ?_
  refine lv_iconst (v := (3 : Int32)) hx hb dL_law_985 (by decide) ?_
  refine lv_iadd hx hb dL_law_986 ?_
  refine va_sld (i := (nI i + (3 : Int32))) hx hb hX hbl hbA hS (vp_at (k := 3) (by omega) hL) dL_law_987 ?_
  refine lv_i2l (v := (xs (nI i + (3 : Int32)).toNatClampNeg).toInt64) hx hb dL_law_988 rfl ?_
  refine lv_bipush (v := (32 : Int32)) hx hb dL_law_989 (by decide) ?_
  refine lv_lshl (v := (((xs (nI i + (3 : Int32)).toNatClampNeg).toInt64) <<< ((32 : Int32).toInt64 &&& 63))) hx hb dL_law_991 rfl ?_
  refine lv_aload_n hx hb dL_law_992 rfl (lv_at hl 0 rfl) ?_
  refine lv_iload_n hx hb dL_law_993 rfl (lv_at hl 3 rfl) ?_
  refine lv_iconst (v := (4 : Int32)) hx hb dL_law_994 (by decide) ?_
  refine lv_iadd hx hb dL_law_995 ?_
  refine va_sld (i := (nI i + (4 : Int32))) hx hb hX hbl hbA hS (vp_at (k := 4) (by omega) hL) dL_law_996 ?_
  refine lv_i2l (v := (xs (nI i + (4 : Int32)).toNatClampNeg).toInt64) hx hb dL_law_997 rfl ?_
  refine lv_ldc2 (v := (4294967295 : Int64)) hx hb hown (hG _ mw1_6) dL_law_998 ?_
  refine lv_land hx hb dL_law_1001 ?_
  refine lv_lor hx hb dL_law_1002 ?_
  refine lawI (As := [.int (xs (nI i + (1 : Int32)).toNatClampNeg), .int (xs (nI i + (2 : Int32)).toNatClampNeg), .long ((((xs (nI i + (3 : Int32)).toNatClampNeg).toInt64) <<< ((32 : Int32).toInt64 &&& 63)) ||| (((xs (nI i + (4 : Int32)).toNatClampNeg).toInt64) &&& (4294967295 : Int64)))]) (rest := [.int ρ]) (ci := 7) (n := 3) mw35_0 mw35_1 mw35_2 mw1_5 mw35_3 rfl rfl hd_X7_item hx hb hml hown hG hKX g4 ⟨Nat.le_of_ble_eq_true rfl, Nat.le_of_ble_eq_true rfl⟩ hc hP hD hS hA g3 rfl hl.1 rfl (Nat.le_of_ble_eq_true rfl) dL_law_1003 (fun H locs hP hD hS => ?_)
  refine lv_icmp_eq (tgt := 1108) hx hb dL_law_1006 (by decide) (fun _ => ?_) (fun h => absurd rfl h)
  exact kk W2 H locs g5 hP hD hS
set_option maxHeartbeats 4000000 in
set_option maxRecDepth 100000 in
theorem lc_28 {p : Program} {l : Launch} {e : Env} {s : State} {m : MethodId} {below : List Frame} {meth : Method} {c : Code} {D : va_G} {cy : Nat → ClassId} {b L : Nat} {xs : Nat → Int32} (C0 : lw_At p s m meth c b L xs) (hG : ∀ w ∈ GW, w.before #[Value.ref b] s = true) (hKX : KX D cy s) {i : Nat} (hi : i + 6 ≤ L) (hL : L ≤ 3072) {x m7 : Nat} {W0 : va_W} (hI : INV cy x m7 W0) {cells slots : Nat} (hc : cells ≤ room_1.cells ∧ slots ≤ room_1.slots) {H : Heap} {locs : List Loc} {ls : Array Slot} (hP : va_P D vwCl W0 H) (hD : va_D (fun q : Nat => s.heap.size ≤ q) W0) (hS : va_S (fun q : Nat => s.heap.size ≤ q) s.heap H locs) (hl : lv_has ls 4 [(0, .ref b), (1, .ref x), (2, .ref m7), (3, .int (nI i))]) (kk : ∀ (W' : va_W) (H' : Heap) (locs' : List Loc), INV cy x m7 W' → va_P D vwCl W' H' → va_D (fun q : Nat => s.heap.size ≤ q) W' → va_S (fun q : Nat => s.heap.size ≤ q) s.heap H' locs' → W p l e room_1 s m #[Value.ref b] below meth c H' locs' cells slots (lw_Z below #[Value.ref b] s) (F0 m 1108 ls [])) : W p l e room_1 s m #[Value.ref b] below meth c H locs cells slots (lw_Z below #[Value.ref b] s) (F0 m 1011 ls []) := by
  obtain ⟨hx, hb, hr, hml, hown, hts, hX, hbl, hlocks, hgv⟩ := C0
  have hA : ∀ q : Nat, s.heap.size ≤ q → (fun q : Nat => s.heap.size ≤ q) q := fun _ h => h
  have hbA : ¬ (fun q : Nat => s.heap.size ≤ q) b := Nat.not_le.mpr hbl
  obtain ⟨ρ, W1, W2, f6, f7, g1, g2, g3, g4, g5⟩ := opx_peek l D cy hI (xs (nI i + (1 : Int32)).toNatClampNeg) (xs (nI i + (2 : Int32)).toNatClampNeg)
  refine lv_aload_n hx hb dL_law_1011 rfl (lv_at hl 1 rfl) ?_
  refine lv_aload_n hx hb dL_law_1012 rfl (lv_at hl 0 rfl) ?_
  refine lv_iload_n hx hb dL_law_1013 rfl (lv_at hl 3 rfl) ?_
  refine lv_iconst (v := (1 : Int32)) hx hb dL_law_1014 (by decide) ?_
  refine lv_iadd hx hb dL_law_1015 ?_
  refine va_sld (i := (nI i + (1 : Int32))) hx hb hX hbl hbA hS (vp_at (k := 1) (by omega) hL) dL_law_1016 ?_
  refine lv_aload_n hx hb dL_law_1017 rfl (lv_at hl 0 rfl) ?_
  refine lv_iload_n hx hb dL_law_1018 rfl (lv_at hl 3 rfl) ?_
  refine lv_iconst (v := (2 : Int32)) hx hb dL_law_1019 (by decide) ?_
  refine lv_iadd hx hb dL_law_1020 ?_
  refine va_sld (i := (nI i + (2 : Int32))) hx hb hX hbl hbA hS (vp_at (k := 2) (by omega) hL) dL_law_1021 ?_
  refine lawJ (As := [.int (xs (nI i + (1 : Int32)).toNatClampNeg), .int (xs (nI i + (2 : Int32)).toNatClampNeg)]) (rest := []) (ci := 6) (n := 2) mw35_4 mw35_5 mw35_6 mw1_2 mw35_7 rfl rfl hd_X6_peek hx hb hml hown hG hKX g2 ⟨Nat.le_of_ble_eq_true rfl, Nat.le_of_ble_eq_true rfl⟩ hc hP hD hS hA g1 rfl hl.1 rfl (Nat.le_of_ble_eq_true rfl) dL_law_1022 (fun H locs hP hD hS => ?_)
  refine lv_aload_n hx hb dL_law_1025 rfl (lv_at hl 2 rfl) ?_
  refine lv_aload_n hx hb dL_law_1026 rfl (lv_at hl 0 rfl) ?_
  refine lv_iload_n hx hb dL_law_1027 rfl (lv_at hl 3 rfl) ?_
  refine lv_iconst (v := (1 : Int32)) hx hb dL_law_1028 (by decide) ?_
  refine lv_iadd hx hb dL_law_1029 ?_
  refine va_sld (i := (nI i + (1 : Int32))) hx hb hX hbl hbA hS (vp_at (k := 1) (by omega) hL) dL_law_1030 ?_
  refine lv_aload_n hx hb dL_law_1031 rfl (lv_at hl 0 rfl) ?_
  refine lv_iload_n hx hb dL_law_1032 rfl (lv_at hl 3 rfl) ?_
  refine lv_iconst (v := (2 : Int32)) hx hb dL_law_1033 (by decide) ?_
  refine lv_iadd hx hb dL_law_1034 ?_
  refine va_sld (i := (nI i + (2 : Int32))) hx hb hX hbl hbA hS (vp_at (k := 2) (by omega) hL) dL_law_1035 ?_
  refine lawJ (As := [.int (xs (nI i + (1 : Int32)).toNatClampNeg), .int (xs (nI i + (2 : Int32)).toNatClampNeg)]) (rest := [.long ρ]) (ci := 7) (n := 2) mw35_8 mw35_9 mw35_10 mw1_5 mw35_11 rfl rfl hd_X7_peek hx hb hml hown hG hKX g4 ⟨Nat.le_of_ble_eq_true rfl, Nat.le_of_ble_eq_true rfl⟩ hc hP hD hS hA g3 rfl hl.1 rfl (Nat.le_of_ble_eq_true rfl) dL_law_1036 (fun H locs hP hD hS => ?_)
  refine W.lcmp hx hb dL_law_1039 ?_
  refine lv_if_eq (tgt := 1108) hx hb dL_law_1040 (by decide) (fun _ => ?_) (fun h => absurd (lgc_eq.mpr rfl) h)
  exact kk W2 H locs g5 hP hD hS
set_option maxHeartbeats 4000000 in
set_option maxRecDepth 100000 in
theorem lc_29 {p : Program} {l : Launch} {e : Env} {s : State} {m : MethodId} {below : List Frame} {meth : Method} {c : Code} {D : va_G} {cy : Nat → ClassId} {b L : Nat} {xs : Nat → Int32} (C0 : lw_At p s m meth c b L xs) (hG : ∀ w ∈ GW, w.before #[Value.ref b] s = true) (hKX : KX D cy s) {i : Nat} (hi : i + 6 ≤ L) (hL : L ≤ 3072) {x m7 : Nat} {W0 : va_W} (hI : INV cy x m7 W0) {cells slots : Nat} (hc : cells ≤ room_1.cells ∧ slots ≤ room_1.slots) {H : Heap} {locs : List Loc} {ls : Array Slot} (hP : va_P D vwCl W0 H) (hD : va_D (fun q : Nat => s.heap.size ≤ q) W0) (hS : va_S (fun q : Nat => s.heap.size ≤ q) s.heap H locs) (hl : lv_has ls 4 [(0, .ref b), (1, .ref x), (2, .ref m7), (3, .int (nI i))]) (kk : ∀ (W' : va_W) (H' : Heap) (locs' : List Loc), INV cy x m7 W' → va_P D vwCl W' H' → va_D (fun q : Nat => s.heap.size ≤ q) W' → va_S (fun q : Nat => s.heap.size ≤ q) s.heap H' locs' → W p l e room_1 s m #[Value.ref b] below meth c H' locs' cells slots (lw_Z below #[Value.ref b] s) (F0 m 1108 ls [])) : W p l e room_1 s m #[Value.ref b] below meth c H locs cells slots (lw_Z below #[Value.ref b] s) (F0 m 1045 ls []) := by
  obtain ⟨hx, hb, hr, hml, hown, hts, hX, hbl, hlocks, hgv⟩ := C0
  have hA : ∀ q : Nat, s.heap.size ≤ q → (fun q : Nat => s.heap.size ≤ q) q := fun _ h => h
  have hbA : ¬ (fun q : Nat => s.heap.size ≤ q) b := Nat.not_le.mpr hbl
  obtain ⟨ρ, W1, W2, f6, f7, g1, g2, g3, g4, g5⟩ := opx_shift l D cy hI (xs (nI i + (1 : Int32)).toNatClampNeg) (xs (nI i + (2 : Int32)).toNatClampNeg) (xs (nI i + (3 : Int32)).toNatClampNeg) (xs (nI i + (4 : Int32)).toNatClampNeg) (xs (nI i + (5 : Int32)).toNatClampNeg)
  refine lv_aload_n hx hb dL_law_1045 rfl (lv_at hl 1 rfl) ?_
  refine lv_aload_n hx hb dL_law_1046 rfl (lv_at hl 0 rfl) ?_
  refine lv_iload_n hx hb dL_law_1047 rfl (lv_at hl 3 rfl) ?_
  refine lv_iconst (v := (1 : Int32)) hx hb dL_law_1048 (by decide) ?_
  refine lv_iadd hx hb dL_law_1049 ?_
  refine va_sld (i := (nI i + (1 : Int32))) hx hb hX hbl hbA hS (vp_at (k := 1) (by omega) hL) dL_law_1050 ?_
  refine lv_aload_n hx hb dL_law_1051 rfl (lv_at hl 0 rfl) ?_
  refine lv_iload_n hx hb dL_law_1052 rfl (lv_at hl 3 rfl) ?_
  refine lv_iconst (v := (2 : Int32)) hx hb dL_law_1053 (by decide) ?_
  refine lv_iadd hx hb dL_law_1054 ?_
  refine va_sld (i := (nI i + (2 : Int32))) hx hb hX hbl hbA hS (vp_at (k := 2) (by omega) hL) dL_law_1055 ?_
  refine lv_aload_n hx hb dL_law_1056 rfl (lv_at hl 0 rfl) ?_
  refine lv_iload_n hx hb dL_law_1057 rfl (lv_at hl 3 rfl) ?_
  refine lv_iconst (v := (3 : Int32)) hx hb dL_law_1058 (by decide) ?_
  refine lv_iadd hx hb dL_law_1059 ?_
  refine va_sld (i := (nI i + (3 : Int32))) hx hb hX hbl hbA hS (vp_at (k := 3) (by omega) hL) dL_law_1060 ?_
  refine lv_aload_n hx hb dL_law_1061 rfl (lv_at hl 0 rfl) ?_
  refine lv_iload_n hx hb dL_law_1062 rfl (lv_at hl 3 rfl) ?_
  refine lv_iconst (v := (4 : Int32)) hx hb dL_law_1063 (by decide) ?_
  refine lv_iadd hx hb dL_law_1064 ?_
  refine va_sld (i := (nI i + (4 : Int32))) hx hb hX hbl hbA hS (vp_at (k := 4) (by omega) hL) dL_law_1065 ?_
  refine lv_aload_n hx hb dL_law_1066 rfl (lv_at hl 0 rfl) ?_
  refine lv_iload_n hx hb dL_law_1067 rfl (lv_at hl 3 rfl) ?_
  refine lv_iconst (v := (5 : Int32)) hx hb dL_law_1068 (by decide) ?_
  refine lv_iadd hx hb dL_law_1069 ?_
  refine va_sld (i := (nI i + (5 : Int32))) hx hb hX hbl hbA hS (vp_at (k := 5) (by omega) hL) dL_law_1070 ?_
  refine lawI (As := [.int (xs (nI i + (1 : Int32)).toNatClampNeg), .int (xs (nI i + (2 : Int32)).toNatClampNeg), .int (xs (nI i + (3 : Int32)).toNatClampNeg), .int (xs (nI i + (4 : Int32)).toNatClampNeg), .int (xs (nI i + (5 : Int32)).toNatClampNeg)]) (rest := []) (ci := 6) (n := 5) mw35_12 mw35_13 mw35_14 mw1_2 mw35_15 rfl rfl hd_X6_shift hx hb hml hown hG hKX g2 ⟨Nat.le_of_ble_eq_true rfl, Nat.le_of_ble_eq_true rfl⟩ hc hP hD hS hA g1 rfl hl.1 rfl (Nat.le_of_ble_eq_true rfl) dL_law_1071 (fun H locs hP hD hS => ?_)
  refine lv_aload_n hx hb dL_law_1074 rfl (lv_at hl 2 rfl) ?_
  refine lv_aload_n hx hb dL_law_1075 rfl (lv_at hl 0 rfl) ?_
  refine lv_iload_n hx hb dL_law_1076 rfl (lv_at hl 3 rfl) ?_
  refine lv_iconst (v := (1 : Int32)) hx hb dL_law_1077 (by decide) ?_
  refine lv_iadd hx hb dL_law_1078 ?_
  refine va_sld (i := (nI i + (1 : Int32))) hx hb hX hbl hbA hS (vp_at (k := 1) (by omega) hL) dL_law_1079 ?_
  refine lv_aload_n hx hb dL_law_1080 rfl (lv_at hl 0 rfl) ?_
  refine lv_iload_n hx hb dL_law_1081 rfl (lv_at hl 3 rfl) ?_
  refine lv_iconst (v := (2 : Int32)) hx hb dL_law_1082 (by decide) ?_
  refine lv_iadd hx hb dL_law_1083 ?_
  refine va_sld (i := (nI i + (2 : Int32))) hx hb hX hbl hbA hS (vp_at (k := 2) (by omega) hL) dL_law_1084 ?_
  refine lv_aload_n hx hb dL_law_1085 rfl (lv_at hl 0 rfl) ?_
  refine lv_iload_n hx hb dL_law_1086 rfl (lv_at hl 3 rfl) ?_
  refine lv_iconst (v := (3 : Int32)) hx hb dL_law_1087 (by decide) ?_
  refine lv_iadd hx hb dL_law_1088 ?_
  refine va_sld (i := (nI i + (3 : Int32))) hx hb hX hbl hbA hS (vp_at (k := 3) (by omega) hL) dL_law_1089 ?_
  refine lv_aload_n hx hb dL_law_1090 rfl (lv_at hl 0 rfl) ?_
  refine lv_iload_n hx hb dL_law_1091 rfl (lv_at hl 3 rfl) ?_
  refine lv_iconst (v := (4 : Int32)) hx hb dL_law_1092 (by decide) ?_
  refine lv_iadd hx hb dL_law_1093 ?_
  refine va_sld (i := (nI i + (4 : Int32))) hx hb hX hbl hbA hS (vp_at (k := 4) (by omega) hL) dL_law_1094 ?_
  refine lv_aload_n hx hb dL_law_1095 rfl (lv_at hl 0 rfl) ?_
  refine lv_iload_n hx hb dL_law_1096 rfl (lv_at hl 3 rfl) ?_
  refine lv_iconst (v := (5 : Int32)) hx hb dL_law_1097 (by decide) ?_
  refine lv_iadd hx hb dL_law_1098 ?_
  refine va_sld (i := (nI i + (5 : Int32))) hx hb hX hbl hbA hS (vp_at (k := 5) (by omega) hL) dL_law_1099 ?_
  refine lawI (As := [.int (xs (nI i + (1 : Int32)).toNatClampNeg), .int (xs (nI i + (2 : Int32)).toNatClampNeg), .int (xs (nI i + (3 : Int32)).toNatClampNeg), .int (xs (nI i + (4 : Int32)).toNatClampNeg), .int (xs (nI i + (5 : Int32)).toNatClampNeg)]) (rest := [.int ρ]) (ci := 7) (n := 5) mw35_21 mw35_22 mw35_23 mw1_5 mw36_0 rfl rfl hd_X7_shift hx hb hml hown hG hKX g4 ⟨Nat.le_of_ble_eq_true rfl, Nat.le_of_ble_eq_true rfl⟩ hc hP hD hS hA g3 rfl hl.1 rfl (Nat.le_of_ble_eq_true rfl) dL_law_1100 (fun H locs hP hD hS => ?_)
  refine lv_icmp_eq (tgt := 1108) hx hb dL_law_1103 (by decide) (fun _ => ?_) (fun h => absurd rfl h)
  exact kk W2 H locs g5 hP hD hS
