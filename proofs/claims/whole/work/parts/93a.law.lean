/-! the law, call by call -/
set_option maxHeartbeats 4000000 in
set_option maxRecDepth 100000 in
theorem lc_0 {p : Program} {l : Launch} {e : Env} {s : State} {m : MethodId} {below : List Frame} {meth : Method} {c : Code} {D : va_G} {cy : Nat → ClassId} {b L : Nat} {xs : Nat → Int32} (C0 : lw_At p s m meth c b L xs) (hG : ∀ w ∈ GW, w.before #[Value.ref b] s = true) (hKX : KX D cy s) {i : Nat} (hi : i + 6 ≤ L) (hL : L ≤ 3072) {x m7 : Nat} {W0 : va_W} (hI : INV cy x m7 W0) {cells slots : Nat} (hc : cells ≤ room_1.cells ∧ slots ≤ room_1.slots) {H : Heap} {locs : List Loc} {ls : Array Slot} (hP : va_P D vwCl W0 H) (hD : va_D (fun q : Nat => s.heap.size ≤ q) W0) (hS : va_S (fun q : Nat => s.heap.size ≤ q) s.heap H locs) (hl : lv_has ls 4 [(0, .ref b), (1, .ref x), (2, .ref m7), (3, .int (nI i))]) (kk : ∀ (W' : va_W) (H' : Heap) (locs' : List Loc), INV cy x m7 W' → va_P D vwCl W' H' → va_D (fun q : Nat => s.heap.size ≤ q) W' → va_S (fun q : Nat => s.heap.size ≤ q) s.heap H' locs' → W p l e room_1 s m #[Value.ref b] below meth c H' locs' cells slots (lw_Z below #[Value.ref b] s) (F0 m 1108 ls [])) : W p l e room_1 s m #[Value.ref b] below meth c H locs cells slots (lw_Z below #[Value.ref b] s) (F0 m 168 ls []) := by
  obtain ⟨hx, hb, hr, hml, hown, hts, hX, hbl, hlocks, hgv⟩ := C0
  have hA : ∀ q : Nat, s.heap.size ≤ q → (fun q : Nat => s.heap.size ≤ q) q := fun _ h => h
  have hbA : ¬ (fun q : Nat => s.heap.size ≤ q) b := Nat.not_le.mpr hbl
  obtain ⟨ρ, W1, W2, f6, f7, g1, g2, g3, g4, g5⟩ := opx_contract l D cy hI (xs (nI i + (1 : Int32)).toNatClampNeg) (xs (nI i + (2 : Int32)).toNatClampNeg) (xs (nI i + (3 : Int32)).toNatClampNeg)
  refine lv_aload_n hx hb dL_law_168 rfl (lv_at hl 1 rfl) ?_
  refine lv_aload_n hx hb dL_law_169 rfl (lv_at hl 0 rfl) ?_
  refine lv_iload_n hx hb dL_law_170 rfl (lv_at hl 3 rfl) ?_
  refine lv_iconst (v := (1 : Int32)) hx hb dL_law_171 (by decide) ?_
  refine lv_iadd hx hb dL_law_172 ?_
  refine va_sld (i := (nI i + (1 : Int32))) hx hb hX hbl hbA hS (vp_at (k := 1) (by omega) hL) dL_law_173 ?_
  refine lv_aload_n hx hb dL_law_174 rfl (lv_at hl 0 rfl) ?_
  refine lv_iload_n hx hb dL_law_175 rfl (lv_at hl 3 rfl) ?_
  refine lv_iconst (v := (2 : Int32)) hx hb dL_law_176 (by decide) ?_
  refine lv_iadd hx hb dL_law_177 ?_
  refine va_sld (i := (nI i + (2 : Int32))) hx hb hX hbl hbA hS (vp_at (k := 2) (by omega) hL) dL_law_178 ?_
  refine lv_aload_n hx hb dL_law_179 rfl (lv_at hl 0 rfl) ?_
  refine lv_iload_n hx hb dL_law_180 rfl (lv_at hl 3 rfl) ?_
  refine lv_iconst (v := (3 : Int32)) hx hb dL_law_181 (by decide) ?_
  refine lv_iadd hx hb dL_law_182 ?_
  refine va_sld (i := (nI i + (3 : Int32))) hx hb hX hbl hbA hS (vp_at (k := 3) (by omega) hL) dL_law_183 ?_
  refine lawI (As := [.int (xs (nI i + (1 : Int32)).toNatClampNeg), .int (xs (nI i + (2 : Int32)).toNatClampNeg), .int (xs (nI i + (3 : Int32)).toNatClampNeg)]) (rest := []) (ci := 6) (n := 3) mw6_8 mw6_9 mw6_10 mw1_2 mw6_11 rfl rfl hd_X6_contract hx hb hml hown hG hKX g2 ⟨Nat.le_of_ble_eq_true rfl, Nat.le_of_ble_eq_true rfl⟩ hc hP hD hS hA g1 rfl hl.1 rfl (Nat.le_of_ble_eq_true rfl) dL_law_184 (fun H locs hP hD hS => ?_)
  refine lv_aload_n hx hb dL_law_187 rfl (lv_at hl 2 rfl) ?_
  refine lv_aload_n hx hb dL_law_188 rfl (lv_at hl 0 rfl) ?_
  refine lv_iload_n hx hb dL_law_189 rfl (lv_at hl 3 rfl) ?_
  refine lv_iconst (v := (1 : Int32)) hx hb dL_law_190 (by decide) ?_
  refine lv_iadd hx hb dL_law_191 ?_
  refine va_sld (i := (nI i + (1 : Int32))) hx hb hX hbl hbA hS (vp_at (k := 1) (by omega) hL) dL_law_192 ?_
  refine lv_aload_n hx hb dL_law_193 rfl (lv_at hl 0 rfl) ?_
  refine lv_iload_n hx hb dL_law_194 rfl (lv_at hl 3 rfl) ?_
  refine lv_iconst (v := (2 : Int32)) hx hb dL_law_195 (by decide) ?_
  refine lv_iadd hx hb dL_law_196 ?_
  refine va_sld (i := (nI i + (2 : Int32))) hx hb hX hbl hbA hS (vp_at (k := 2) (by omega) hL) dL_law_197 ?_
  refine lv_aload_n hx hb dL_law_198 rfl (lv_at hl 0 rfl) ?_
  refine lv_iload_n hx hb dL_law_199 rfl (lv_at hl 3 rfl) ?_
  refine lv_iconst (v := (3 : Int32)) hx hb dL_law_200 (by decide) ?_
  refine lv_iadd hx hb dL_law_201 ?_
  refine va_sld (i := (nI i + (3 : Int32))) hx hb hX hbl hbA hS (vp_at (k := 3) (by omega) hL) dL_law_202 ?_
  refine lawI (As := [.int (xs (nI i + (1 : Int32)).toNatClampNeg), .int (xs (nI i + (2 : Int32)).toNatClampNeg), .int (xs (nI i + (3 : Int32)).toNatClampNeg)]) (rest := [.int ρ]) (ci := 7) (n := 3) mw6_20 mw6_21 mw6_22 mw1_5 mw6_23 rfl rfl hd_X7_contract hx hb hml hown hG hKX g4 ⟨Nat.le_of_ble_eq_true rfl, Nat.le_of_ble_eq_true rfl⟩ hc hP hD hS hA g3 rfl hl.1 rfl (Nat.le_of_ble_eq_true rfl) dL_law_203 (fun H locs hP hD hS => ?_)
  refine lv_icmp_eq (tgt := 1108) hx hb dL_law_206 (by decide) (fun _ => ?_) (fun h => absurd rfl h)
  exact kk W2 H locs g5 hP hD hS
set_option maxHeartbeats 4000000 in
set_option maxRecDepth 100000 in
theorem lc_1 {p : Program} {l : Launch} {e : Env} {s : State} {m : MethodId} {below : List Frame} {meth : Method} {c : Code} {D : va_G} {cy : Nat → ClassId} {b L : Nat} {xs : Nat → Int32} (C0 : lw_At p s m meth c b L xs) (hG : ∀ w ∈ GW, w.before #[Value.ref b] s = true) (hKX : KX D cy s) {i : Nat} (hi : i + 6 ≤ L) (hL : L ≤ 3072) {x m7 : Nat} {W0 : va_W} (hI : INV cy x m7 W0) {cells slots : Nat} (hc : cells ≤ room_1.cells ∧ slots ≤ room_1.slots) {H : Heap} {locs : List Loc} {ls : Array Slot} (hP : va_P D vwCl W0 H) (hD : va_D (fun q : Nat => s.heap.size ≤ q) W0) (hS : va_S (fun q : Nat => s.heap.size ≤ q) s.heap H locs) (hl : lv_has ls 4 [(0, .ref b), (1, .ref x), (2, .ref m7), (3, .int (nI i))]) (kk : ∀ (W' : va_W) (H' : Heap) (locs' : List Loc), INV cy x m7 W' → va_P D vwCl W' H' → va_D (fun q : Nat => s.heap.size ≤ q) W' → va_S (fun q : Nat => s.heap.size ≤ q) s.heap H' locs' → W p l e room_1 s m #[Value.ref b] below meth c H' locs' cells slots (lw_Z below #[Value.ref b] s) (F0 m 1108 ls [])) : W p l e room_1 s m #[Value.ref b] below meth c H locs cells slots (lw_Z below #[Value.ref b] s) (F0 m 211 ls []) := by
  obtain ⟨hx, hb, hr, hml, hown, hts, hX, hbl, hlocks, hgv⟩ := C0
  have hA : ∀ q : Nat, s.heap.size ≤ q → (fun q : Nat => s.heap.size ≤ q) q := fun _ h => h
  have hbA : ¬ (fun q : Nat => s.heap.size ≤ q) b := Nat.not_le.mpr hbl
  obtain ⟨ρ, W1, W2, f6, f7, g1, g2, g3, g4, g5⟩ := opx_renew l D cy hI (xs (nI i + (1 : Int32)).toNatClampNeg) (xs (nI i + (2 : Int32)).toNatClampNeg) (xs (nI i + (3 : Int32)).toNatClampNeg)
  refine lv_aload_n hx hb dL_law_211 rfl (lv_at hl 1 rfl) ?_
  refine lv_aload_n hx hb dL_law_212 rfl (lv_at hl 0 rfl) ?_
  refine lv_iload_n hx hb dL_law_213 rfl (lv_at hl 3 rfl) ?_
  refine lv_iconst (v := (1 : Int32)) hx hb dL_law_214 (by decide) ?_
  refine lv_iadd hx hb dL_law_215 ?_
  refine va_sld (i := (nI i + (1 : Int32))) hx hb hX hbl hbA hS (vp_at (k := 1) (by omega) hL) dL_law_216 ?_
  refine lv_aload_n hx hb dL_law_217 rfl (lv_at hl 0 rfl) ?_
  refine lv_iload_n hx hb dL_law_218 rfl (lv_at hl 3 rfl) ?_
  refine lv_iconst (v := (2 : Int32)) hx hb dL_law_219 (by decide) ?_
  refine lv_iadd hx hb dL_law_220 ?_
  refine va_sld (i := (nI i + (2 : Int32))) hx hb hX hbl hbA hS (vp_at (k := 2) (by omega) hL) dL_law_221 ?_
  refine lv_aload_n hx hb dL_law_222 rfl (lv_at hl 0 rfl) ?_
  refine lv_iload_n hx hb dL_law_223 rfl (lv_at hl 3 rfl) ?_
  refine lv_iconst (v := (3 : Int32)) hx hb dL_law_224 (by decide) ?_
  refine lv_iadd hx hb dL_law_225 ?_
  refine va_sld (i := (nI i + (3 : Int32))) hx hb hX hbl hbA hS (vp_at (k := 3) (by omega) hL) dL_law_226 ?_
  refine lawI (As := [.int (xs (nI i + (1 : Int32)).toNatClampNeg), .int (xs (nI i + (2 : Int32)).toNatClampNeg), .int (xs (nI i + (3 : Int32)).toNatClampNeg)]) (rest := []) (ci := 6) (n := 3) mw7_6 mw7_7 mw7_8 mw1_2 mw7_9 rfl rfl hd_X6_renew hx hb hml hown hG hKX g2 ⟨Nat.le_of_ble_eq_true rfl, Nat.le_of_ble_eq_true rfl⟩ hc hP hD hS hA g1 rfl hl.1 rfl (Nat.le_of_ble_eq_true rfl) dL_law_227 (fun H locs hP hD hS => ?_)
  refine lv_aload_n hx hb dL_law_230 rfl (lv_at hl 2 rfl) ?_
  refine lv_aload_n hx hb dL_law_231 rfl (lv_at hl 0 rfl) ?_
  refine lv_iload_n hx hb dL_law_232 rfl (lv_at hl 3 rfl) ?_
  refine lv_iconst (v := (1 : Int32)) hx hb dL_law_233 (by decide) ?_
  refine lv_iadd hx hb dL_law_234 ?_
  refine va_sld (i := (nI i + (1 : Int32))) hx hb hX hbl hbA hS (vp_at (k := 1) (by omega) hL) dL_law_235 ?_
  refine lv_aload_n hx hb dL_law_236 rfl (lv_at hl 0 rfl) ?_
  refine lv_iload_n hx hb dL_law_237 rfl (lv_at hl 3 rfl) ?_
  refine lv_iconst (v := (2 : Int32)) hx hb dL_law_238 (by decide) ?_
  refine lv_iadd hx hb dL_law_239 ?_
  refine va_sld (i := (nI i + (2 : Int32))) hx hb hX hbl hbA hS (vp_at (k := 2) (by omega) hL) dL_law_240 ?_
  refine lv_aload_n hx hb dL_law_241 rfl (lv_at hl 0 rfl) ?_
  refine lv_iload_n hx hb dL_law_242 rfl (lv_at hl 3 rfl) ?_
  refine lv_iconst (v := (3 : Int32)) hx hb dL_law_243 (by decide) ?_
  refine lv_iadd hx hb dL_law_244 ?_
  refine va_sld (i := (nI i + (3 : Int32))) hx hb hX hbl hbA hS (vp_at (k := 3) (by omega) hL) dL_law_245 ?_
  refine lawI (As := [.int (xs (nI i + (1 : Int32)).toNatClampNeg), .int (xs (nI i + (2 : Int32)).toNatClampNeg), .int (xs (nI i + (3 : Int32)).toNatClampNeg)]) (rest := [.int ρ]) (ci := 7) (n := 3) mw7_22 mw7_23 mw8_0 mw1_5 mw8_1 rfl rfl hd_X7_renew hx hb hml hown hG hKX g4 ⟨Nat.le_of_ble_eq_true rfl, Nat.le_of_ble_eq_true rfl⟩ hc hP hD hS hA g3 rfl hl.1 rfl (Nat.le_of_ble_eq_true rfl) dL_law_246 (fun H locs hP hD hS => ?_)
  refine lv_icmp_eq (tgt := 1108) hx hb dL_law_249 (by decide) (fun _ => ?_) (fun h => absurd rfl h)
  exact kk W2 H locs g5 hP hD hS
set_option maxHeartbeats 4000000 in
set_option maxRecDepth 100000 in
theorem lc_2 {p : Program} {l : Launch} {e : Env} {s : State} {m : MethodId} {below : List Frame} {meth : Method} {c : Code} {D : va_G} {cy : Nat → ClassId} {b L : Nat} {xs : Nat → Int32} (C0 : lw_At p s m meth c b L xs) (hG : ∀ w ∈ GW, w.before #[Value.ref b] s = true) (hKX : KX D cy s) {i : Nat} (hi : i + 6 ≤ L) (hL : L ≤ 3072) {x m7 : Nat} {W0 : va_W} (hI : INV cy x m7 W0) {cells slots : Nat} (hc : cells ≤ room_1.cells ∧ slots ≤ room_1.slots) {H : Heap} {locs : List Loc} {ls : Array Slot} (hP : va_P D vwCl W0 H) (hD : va_D (fun q : Nat => s.heap.size ≤ q) W0) (hS : va_S (fun q : Nat => s.heap.size ≤ q) s.heap H locs) (hl : lv_has ls 4 [(0, .ref b), (1, .ref x), (2, .ref m7), (3, .int (nI i))]) (kk : ∀ (W' : va_W) (H' : Heap) (locs' : List Loc), INV cy x m7 W' → va_P D vwCl W' H' → va_D (fun q : Nat => s.heap.size ≤ q) W' → va_S (fun q : Nat => s.heap.size ≤ q) s.heap H' locs' → W p l e room_1 s m #[Value.ref b] below meth c H' locs' cells slots (lw_Z below #[Value.ref b] s) (F0 m 1108 ls [])) : W p l e room_1 s m #[Value.ref b] below meth c H locs cells slots (lw_Z below #[Value.ref b] s) (F0 m 254 ls []) := by
  obtain ⟨hx, hb, hr, hml, hown, hts, hX, hbl, hlocks, hgv⟩ := C0
  have hA : ∀ q : Nat, s.heap.size ≤ q → (fun q : Nat => s.heap.size ≤ q) q := fun _ h => h
  have hbA : ¬ (fun q : Nat => s.heap.size ≤ q) b := Nat.not_le.mpr hbl
  by_cases c3 : xs (nI i + (3 : Int32)).toNatClampNeg = 0
  · obtain ⟨ρ, W1, W2, f6, f7, g1, g2, g3, g4, g5⟩ := opx_refer l D cy hI (xs (nI i + (1 : Int32)).toNatClampNeg) (xs (nI i + (2 : Int32)).toNatClampNeg) (0 : Int32)
    refine lv_aload_n hx hb dL_law_254 rfl (lv_at hl 1 rfl) ?_
    refine lv_aload_n hx hb dL_law_255 rfl (lv_at hl 0 rfl) ?_
    refine lv_iload_n hx hb dL_law_256 rfl (lv_at hl 3 rfl) ?_
    refine lv_iconst (v := (1 : Int32)) hx hb dL_law_257 (by decide) ?_
    refine lv_iadd hx hb dL_law_258 ?_
    refine va_sld (i := (nI i + (1 : Int32))) hx hb hX hbl hbA hS (vp_at (k := 1) (by omega) hL) dL_law_259 ?_
    refine lv_aload_n hx hb dL_law_260 rfl (lv_at hl 0 rfl) ?_
    refine lv_iload_n hx hb dL_law_261 rfl (lv_at hl 3 rfl) ?_
    refine lv_iconst (v := (2 : Int32)) hx hb dL_law_262 (by decide) ?_
    refine lv_iadd hx hb dL_law_263 ?_
    refine va_sld (i := (nI i + (2 : Int32))) hx hb hX hbl hbA hS (vp_at (k := 2) (by omega) hL) dL_law_264 ?_
    refine lv_aload_n hx hb dL_law_265 rfl (lv_at hl 0 rfl) ?_
    refine lv_iload_n hx hb dL_law_266 rfl (lv_at hl 3 rfl) ?_
    refine lv_iconst (v := (3 : Int32)) hx hb dL_law_267 (by decide) ?_
    refine lv_iadd hx hb dL_law_268 ?_
    refine va_sld (i := (nI i + (3 : Int32))) hx hb hX hbl hbA hS (vp_at (k := 3) (by omega) hL) dL_law_269 ?_
    refine lv_if_eq (tgt := 277) hx hb dL_law_270 (by decide) (fun _ => ?_) (fun h => absurd c3 h)
    refine lv_iconst (v := (0 : Int32)) hx hb dL_law_277 (by decide) ?_
    refine lawI (As := [.int (xs (nI i + (1 : Int32)).toNatClampNeg), .int (xs (nI i + (2 : Int32)).toNatClampNeg), .int (0 : Int32)]) (rest := []) (ci := 6) (n := 3) mw8_10 mw8_11 mw8_12 mw1_2 mw8_13 rfl rfl hd_X6_refer hx hb hml hown hG hKX g2 ⟨Nat.le_of_ble_eq_true rfl, Nat.le_of_ble_eq_true rfl⟩ hc hP hD hS hA g1 rfl hl.1 rfl (Nat.le_of_ble_eq_true rfl) dL_law_278 (fun H locs hP hD hS => ?_)
    refine lv_aload_n hx hb dL_law_281 rfl (lv_at hl 2 rfl) ?_
    refine lv_aload_n hx hb dL_law_282 rfl (lv_at hl 0 rfl) ?_
    refine lv_iload_n hx hb dL_law_283 rfl (lv_at hl 3 rfl) ?_
    refine lv_iconst (v := (1 : Int32)) hx hb dL_law_284 (by decide) ?_
    refine lv_iadd hx hb dL_law_285 ?_
    refine va_sld (i := (nI i + (1 : Int32))) hx hb hX hbl hbA hS (vp_at (k := 1) (by omega) hL) dL_law_286 ?_
    refine lv_aload_n hx hb dL_law_287 rfl (lv_at hl 0 rfl) ?_
    refine lv_iload_n hx hb dL_law_288 rfl (lv_at hl 3 rfl) ?_
    refine lv_iconst (v := (2 : Int32)) hx hb dL_law_289 (by decide) ?_
    refine lv_iadd hx hb dL_law_290 ?_
    refine va_sld (i := (nI i + (2 : Int32))) hx hb hX hbl hbA hS (vp_at (k := 2) (by omega) hL) dL_law_291 ?_
    refine lv_aload_n hx hb dL_law_292 rfl (lv_at hl 0 rfl) ?_
    refine lv_iload_n hx hb dL_law_293 rfl (lv_at hl 3 rfl) ?_
    refine lv_iconst (v := (3 : Int32)) hx hb dL_law_294 (by decide) ?_
    refine lv_iadd hx hb dL_law_295 ?_
    refine va_sld (i := (nI i + (3 : Int32))) hx hb hX hbl hbA hS (vp_at (k := 3) (by omega) hL) dL_law_296 ?_
    refine lv_if_eq (tgt := 304) hx hb dL_law_297 (by decide) (fun _ => ?_) (fun h => absurd c3 h)
    refine lv_iconst (v := (0 : Int32)) hx hb dL_law_304 (by decide) ?_
    refine lawI (As := [.int (xs (nI i + (1 : Int32)).toNatClampNeg), .int (xs (nI i + (2 : Int32)).toNatClampNeg), .int (0 : Int32)]) (rest := [.int ρ]) (ci := 7) (n := 3) mw8_20 mw8_21 mw8_22 mw1_5 mw8_23 rfl rfl hd_X7_refer hx hb hml hown hG hKX g4 ⟨Nat.le_of_ble_eq_true rfl, Nat.le_of_ble_eq_true rfl⟩ hc hP hD hS hA g3 rfl hl.1 rfl (Nat.le_of_ble_eq_true rfl) dL_law_305 (fun H locs hP hD hS => ?_)
    refine lv_icmp_eq (tgt := 1108) hx hb dL_law_308 (by decide) (fun _ => ?_) (fun h => absurd rfl h)
    exact kk W2 H locs g5 hP hD hS
  · obtain ⟨ρ, W1, W2, f6, f7, g1, g2, g3, g4, g5⟩ := opx_refer l D cy hI (xs (nI i + (1 : Int32)).toNatClampNeg) (xs (nI i + (2 : Int32)).toNatClampNeg) (1 : Int32)
    refine lv_aload_n hx hb dL_law_254 rfl (lv_at hl 1 rfl) ?_
    refine lv_aload_n hx hb dL_law_255 rfl (lv_at hl 0 rfl) ?_
    refine lv_iload_n hx hb dL_law_256 rfl (lv_at hl 3 rfl) ?_
    refine lv_iconst (v := (1 : Int32)) hx hb dL_law_257 (by decide) ?_
    refine lv_iadd hx hb dL_law_258 ?_
    refine va_sld (i := (nI i + (1 : Int32))) hx hb hX hbl hbA hS (vp_at (k := 1) (by omega) hL) dL_law_259 ?_
    refine lv_aload_n hx hb dL_law_260 rfl (lv_at hl 0 rfl) ?_
    refine lv_iload_n hx hb dL_law_261 rfl (lv_at hl 3 rfl) ?_
    refine lv_iconst (v := (2 : Int32)) hx hb dL_law_262 (by decide) ?_
    refine lv_iadd hx hb dL_law_263 ?_
    refine va_sld (i := (nI i + (2 : Int32))) hx hb hX hbl hbA hS (vp_at (k := 2) (by omega) hL) dL_law_264 ?_
    refine lv_aload_n hx hb dL_law_265 rfl (lv_at hl 0 rfl) ?_
    refine lv_iload_n hx hb dL_law_266 rfl (lv_at hl 3 rfl) ?_
    refine lv_iconst (v := (3 : Int32)) hx hb dL_law_267 (by decide) ?_
    refine lv_iadd hx hb dL_law_268 ?_
    refine va_sld (i := (nI i + (3 : Int32))) hx hb hX hbl hbA hS (vp_at (k := 3) (by omega) hL) dL_law_269 ?_
    refine lv_if_eq (tgt := 277) hx hb dL_law_270 (by decide) (fun h => absurd h c3) (fun _ => ?_)
    refine lv_iconst (v := (1 : Int32)) hx hb dL_law_273 (by decide) ?_
    refine lv_goto (tgt := 278) hx hb dL_law_274 (by decide) ?_
    refine lawI (As := [.int (xs (nI i + (1 : Int32)).toNatClampNeg), .int (xs (nI i + (2 : Int32)).toNatClampNeg), .int (1 : Int32)]) (rest := []) (ci := 6) (n := 3) mw8_10 mw8_11 mw8_12 mw1_2 mw8_13 rfl rfl hd_X6_refer hx hb hml hown hG hKX g2 ⟨Nat.le_of_ble_eq_true rfl, Nat.le_of_ble_eq_true rfl⟩ hc hP hD hS hA g1 rfl hl.1 rfl (Nat.le_of_ble_eq_true rfl) dL_law_278 (fun H locs hP hD hS => ?_)
    refine lv_aload_n hx hb dL_law_281 rfl (lv_at hl 2 rfl) ?_
    refine lv_aload_n hx hb dL_law_282 rfl (lv_at hl 0 rfl) ?_
    refine lv_iload_n hx hb dL_law_283 rfl (lv_at hl 3 rfl) ?_
    refine lv_iconst (v := (1 : Int32)) hx hb dL_law_284 (by decide) ?_
    refine lv_iadd hx hb dL_law_285 ?_
    refine va_sld (i := (nI i + (1 : Int32))) hx hb hX hbl hbA hS (vp_at (k := 1) (by omega) hL) dL_law_286 ?_
    refine lv_aload_n hx hb dL_law_287 rfl (lv_at hl 0 rfl) ?_
    refine lv_iload_n hx hb dL_law_288 rfl (lv_at hl 3 rfl) ?_
    refine lv_iconst (v := (2 : Int32)) hx hb dL_law_289 (by decide) ?_
    refine lv_iadd hx hb dL_law_290 ?_
    refine va_sld (i := (nI i + (2 : Int32))) hx hb hX hbl hbA hS (vp_at (k := 2) (by omega) hL) dL_law_291 ?_
    refine lv_aload_n hx hb dL_law_292 rfl (lv_at hl 0 rfl) ?_
    refine lv_iload_n hx hb dL_law_293 rfl (lv_at hl 3 rfl) ?_
    refine lv_iconst (v := (3 : Int32)) hx hb dL_law_294 (by decide) ?_
    refine lv_iadd hx hb dL_law_295 ?_
    refine va_sld (i := (nI i + (3 : Int32))) hx hb hX hbl hbA hS (vp_at (k := 3) (by omega) hL) dL_law_296 ?_
    refine lv_if_eq (tgt := 304) hx hb dL_law_297 (by decide) (fun h => absurd h c3) (fun _ => ?_)
    refine lv_iconst (v := (1 : Int32)) hx hb dL_law_300 (by decide) ?_
    refine lv_goto (tgt := 305) hx hb dL_law_301 (by decide) ?_
    refine lawI (As := [.int (xs (nI i + (1 : Int32)).toNatClampNeg), .int (xs (nI i + (2 : Int32)).toNatClampNeg), .int (1 : Int32)]) (rest := [.int ρ]) (ci := 7) (n := 3) mw8_20 mw8_21 mw8_22 mw1_5 mw8_23 rfl rfl hd_X7_refer hx hb hml hown hG hKX g4 ⟨Nat.le_of_ble_eq_true rfl, Nat.le_of_ble_eq_true rfl⟩ hc hP hD hS hA g3 rfl hl.1 rfl (Nat.le_of_ble_eq_true rfl) dL_law_305 (fun H locs hP hD hS => ?_)
    refine lv_icmp_eq (tgt := 1108) hx hb dL_law_308 (by decide) (fun _ => ?_) (fun h => absurd rfl h)
    exact kk W2 H locs g5 hP hD hS
set_option maxHeartbeats 4000000 in
set_option maxRecDepth 100000 in
theorem lc_3 {p : Program} {l : Launch} {e : Env} {s : State} {m : MethodId} {below : List Frame} {meth : Method} {c : Code} {D : va_G} {cy : Nat → ClassId} {b L : Nat} {xs : Nat → Int32} (C0 : lw_At p s m meth c b L xs) (hG : ∀ w ∈ GW, w.before #[Value.ref b] s = true) (hKX : KX D cy s) {i : Nat} (hi : i + 6 ≤ L) (hL : L ≤ 3072) {x m7 : Nat} {W0 : va_W} (hI : INV cy x m7 W0) {cells slots : Nat} (hc : cells ≤ room_1.cells ∧ slots ≤ room_1.slots) {H : Heap} {locs : List Loc} {ls : Array Slot} (hP : va_P D vwCl W0 H) (hD : va_D (fun q : Nat => s.heap.size ≤ q) W0) (hS : va_S (fun q : Nat => s.heap.size ≤ q) s.heap H locs) (hl : lv_has ls 4 [(0, .ref b), (1, .ref x), (2, .ref m7), (3, .int (nI i))]) (kk : ∀ (W' : va_W) (H' : Heap) (locs' : List Loc), INV cy x m7 W' → va_P D vwCl W' H' → va_D (fun q : Nat => s.heap.size ≤ q) W' → va_S (fun q : Nat => s.heap.size ≤ q) s.heap H' locs' → W p l e room_1 s m #[Value.ref b] below meth c H' locs' cells slots (lw_Z below #[Value.ref b] s) (F0 m 1108 ls [])) : W p l e room_1 s m #[Value.ref b] below meth c H locs cells slots (lw_Z below #[Value.ref b] s) (F0 m 313 ls []) := by
  obtain ⟨hx, hb, hr, hml, hown, hts, hX, hbl, hlocks, hgv⟩ := C0
  have hA : ∀ q : Nat, s.heap.size ≤ q → (fun q : Nat => s.heap.size ≤ q) q := fun _ h => h
  have hbA : ¬ (fun q : Nat => s.heap.size ≤ q) b := Nat.not_le.mpr hbl
  obtain ⟨ρ, W1, W2, f6, f7, g1, g2, g3, g4, g5⟩ := opx_loss l D cy hI (xs (nI i + (1 : Int32)).toNatClampNeg)
  refine lv_aload_n hx hb dL_law_313 rfl (lv_at hl 1 rfl) ?_
  refine lv_aload_n hx hb dL_law_314 rfl (lv_at hl 0 rfl) ?_
  refine lv_iload_n hx hb dL_law_315 rfl (lv_at hl 3 rfl) ?_
  refine lv_iconst (v := (1 : Int32)) hx hb dL_law_316 (by decide) ?_
  refine lv_iadd hx hb dL_law_317 ?_
  refine va_sld (i := (nI i + (1 : Int32))) hx hb hX hbl hbA hS (vp_at (k := 1) (by omega) hL) dL_law_318 ?_
  refine lawI (As := [.int (xs (nI i + (1 : Int32)).toNatClampNeg)]) (rest := []) (ci := 6) (n := 1) mw9_0 mw9_1 mw9_2 mw1_2 mw9_3 rfl rfl hd_X6_loss hx hb hml hown hG hKX g2 ⟨Nat.le_of_ble_eq_true rfl, Nat.le_of_ble_eq_true rfl⟩ hc hP hD hS hA g1 rfl hl.1 rfl (Nat.le_of_ble_eq_true rfl) dL_law_319 (fun H locs hP hD hS => ?_)
  refine lv_aload_n hx hb dL_law_322 rfl (lv_at hl 2 rfl) ?_
  refine lv_aload_n hx hb dL_law_323 rfl (lv_at hl 0 rfl) ?_
  refine lv_iload_n hx hb dL_law_324 rfl (lv_at hl 3 rfl) ?_
  refine lv_iconst (v := (1 : Int32)) hx hb dL_law_325 (by decide) ?_
  refine lv_iadd hx hb dL_law_326 ?_
  refine va_sld (i := (nI i + (1 : Int32))) hx hb hX hbl hbA hS (vp_at (k := 1) (by omega) hL) dL_law_327 ?_
  refine lawI (As := [.int (xs (nI i + (1 : Int32)).toNatClampNeg)]) (rest := [.int ρ]) (ci := 7) (n := 1) mw9_9 mw9_10 mw9_11 mw1_5 mw9_12 rfl rfl hd_X7_loss hx hb hml hown hG hKX g4 ⟨Nat.le_of_ble_eq_true rfl, Nat.le_of_ble_eq_true rfl⟩ hc hP hD hS hA g3 rfl hl.1 rfl (Nat.le_of_ble_eq_true rfl) dL_law_328 (fun H locs hP hD hS => ?_)
  refine lv_icmp_eq (tgt := 1108) hx hb dL_law_331 (by decide) (fun _ => ?_) (fun h => absurd rfl h)
  exact kk W2 H locs g5 hP hD hS
set_option maxHeartbeats 4000000 in
set_option maxRecDepth 100000 in
theorem lc_4 {p : Program} {l : Launch} {e : Env} {s : State} {m : MethodId} {below : List Frame} {meth : Method} {c : Code} {D : va_G} {cy : Nat → ClassId} {b L : Nat} {xs : Nat → Int32} (C0 : lw_At p s m meth c b L xs) (hG : ∀ w ∈ GW, w.before #[Value.ref b] s = true) (hKX : KX D cy s) {i : Nat} (hi : i + 6 ≤ L) (hL : L ≤ 3072) {x m7 : Nat} {W0 : va_W} (hI : INV cy x m7 W0) {cells slots : Nat} (hc : cells ≤ room_1.cells ∧ slots ≤ room_1.slots) {H : Heap} {locs : List Loc} {ls : Array Slot} (hP : va_P D vwCl W0 H) (hD : va_D (fun q : Nat => s.heap.size ≤ q) W0) (hS : va_S (fun q : Nat => s.heap.size ≤ q) s.heap H locs) (hl : lv_has ls 4 [(0, .ref b), (1, .ref x), (2, .ref m7), (3, .int (nI i))]) (kk : ∀ (W' : va_W) (H' : Heap) (locs' : List Loc), INV cy x m7 W' → va_P D vwCl W' H' → va_D (fun q : Nat => s.heap.size ≤ q) W' → va_S (fun q : Nat => s.heap.size ≤ q) s.heap H' locs' → W p l e room_1 s m #[Value.ref b] below meth c H' locs' cells slots (lw_Z below #[Value.ref b] s) (F0 m 1108 ls [])) : W p l e room_1 s m #[Value.ref b] below meth c H locs cells slots (lw_Z below #[Value.ref b] s) (F0 m 336 ls []) := by
  obtain ⟨hx, hb, hr, hml, hown, hts, hX, hbl, hlocks, hgv⟩ := C0
  have hA : ∀ q : Nat, s.heap.size ≤ q → (fun q : Nat => s.heap.size ≤ q) q := fun _ h => h
  have hbA : ¬ (fun q : Nat => s.heap.size ≤ q) b := Nat.not_le.mpr hbl
  obtain ⟨ρ, W1, W2, f6, f7, g1, g2, g3, g4, g5⟩ := opx_of l D cy hI (xs (nI i + (1 : Int32)).toNatClampNeg) (xs (nI i + (2 : Int32)).toNatClampNeg)
  refine lv_aload_n hx hb dL_law_336 rfl (lv_at hl 1 rfl) ?_
  refine lv_aload_n hx hb dL_law_337 rfl (lv_at hl 0 rfl) ?_
  refine lv_iload_n hx hb dL_law_338 rfl (lv_at hl 3 rfl) ?_
  refine lv_iconst (v := (1 : Int32)) hx hb dL_law_339 (by decide) ?_
  refine lv_iadd hx hb dL_law_340 ?_
  refine va_sld (i := (nI i + (1 : Int32))) hx hb hX hbl hbA hS (vp_at (k := 1) (by omega) hL) dL_law_341 ?_
  refine lv_aload_n hx hb dL_law_342 rfl (lv_at hl 0 rfl) ?_
  refine lv_iload_n hx hb dL_law_343 rfl (lv_at hl 3 rfl) ?_
  refine lv_iconst (v := (2 : Int32)) hx hb dL_law_344 (by decide) ?_
  refine lv_iadd hx hb dL_law_345 ?_
  refine va_sld (i := (nI i + (2 : Int32))) hx hb hX hbl hbA hS (vp_at (k := 2) (by omega) hL) dL_law_346 ?_
  refine lawI (As := [.int (xs (nI i + (1 : Int32)).toNatClampNeg), .int (xs (nI i + (2 : Int32)).toNatClampNeg)]) (rest := []) (ci := 6) (n := 2) mw9_14 mw9_15 mw9_16 mw1_2 mw9_17 rfl rfl hd_X6_of hx hb hml hown hG hKX g2 ⟨Nat.le_of_ble_eq_true rfl, Nat.le_of_ble_eq_true rfl⟩ hc hP hD hS hA g1 rfl hl.1 rfl (Nat.le_of_ble_eq_true rfl) dL_law_347 (fun H locs hP hD hS => ?_)
  refine lv_aload_n hx hb dL_law_350 rfl (lv_at hl 2 rfl) ?_
  refine lv_aload_n hx hb dL_law_351 rfl (lv_at hl 0 rfl) ?_
  refine lv_iload_n hx hb dL_law_352 rfl (lv_at hl 3 rfl) ?_
  refine lv_iconst (v := (1 : Int32)) hx hb dL_law_353 (by decide) ?_
  refine lv_iadd hx hb dL_law_354 ?_
  refine va_sld (i := (nI i + (1 : Int32))) hx hb hX hbl hbA hS (vp_at (k := 1) (by omega) hL) dL_law_355 ?_
  refine lv_aload_n hx hb dL_law_356 rfl (lv_at hl 0 rfl) ?_
  refine lv_iload_n hx hb dL_law_357 rfl (lv_at hl 3 rfl) ?_
  refine lv_iconst (v := (2 : Int32)) hx hb dL_law_358 (by decide) ?_
  refine lv_iadd hx hb dL_law_359 ?_
  refine va_sld (i := (nI i + (2 : Int32))) hx hb hX hbl hbA hS (vp_at (k := 2) (by omega) hL) dL_law_360 ?_
  refine lawI (As := [.int (xs (nI i + (1 : Int32)).toNatClampNeg), .int (xs (nI i + (2 : Int32)).toNatClampNeg)]) (rest := [.int ρ]) (ci := 7) (n := 2) mw14_5 mw14_6 mw14_7 mw1_5 mw14_8 rfl rfl hd_X7_of hx hb hml hown hG hKX g4 ⟨Nat.le_of_ble_eq_true rfl, Nat.le_of_ble_eq_true rfl⟩ hc hP hD hS hA g3 rfl hl.1 rfl (Nat.le_of_ble_eq_true rfl) dL_law_361 (fun H locs hP hD hS => ?_)
  refine lv_icmp_eq (tgt := 1108) hx hb dL_law_364 (by decide) (fun _ => ?_) (fun h => absurd rfl h)
  exact kk W2 H locs g5 hP hD hS
set_option maxHeartbeats 4000000 in
set_option maxRecDepth 100000 in
theorem lc_5 {p : Program} {l : Launch} {e : Env} {s : State} {m : MethodId} {below : List Frame} {meth : Method} {c : Code} {D : va_G} {cy : Nat → ClassId} {b L : Nat} {xs : Nat → Int32} (C0 : lw_At p s m meth c b L xs) (hG : ∀ w ∈ GW, w.before #[Value.ref b] s = true) (hKX : KX D cy s) {i : Nat} (hi : i + 6 ≤ L) (hL : L ≤ 3072) {x m7 : Nat} {W0 : va_W} (hI : INV cy x m7 W0) {cells slots : Nat} (hc : cells ≤ room_1.cells ∧ slots ≤ room_1.slots) {H : Heap} {locs : List Loc} {ls : Array Slot} (hP : va_P D vwCl W0 H) (hD : va_D (fun q : Nat => s.heap.size ≤ q) W0) (hS : va_S (fun q : Nat => s.heap.size ≤ q) s.heap H locs) (hl : lv_has ls 4 [(0, .ref b), (1, .ref x), (2, .ref m7), (3, .int (nI i))]) (kk : ∀ (W' : va_W) (H' : Heap) (locs' : List Loc), INV cy x m7 W' → va_P D vwCl W' H' → va_D (fun q : Nat => s.heap.size ≤ q) W' → va_S (fun q : Nat => s.heap.size ≤ q) s.heap H' locs' → W p l e room_1 s m #[Value.ref b] below meth c H' locs' cells slots (lw_Z below #[Value.ref b] s) (F0 m 1108 ls [])) : W p l e room_1 s m #[Value.ref b] below meth c H locs cells slots (lw_Z below #[Value.ref b] s) (F0 m 369 ls []) := by
  obtain ⟨hx, hb, hr, hml, hown, hts, hX, hbl, hlocks, hgv⟩ := C0
  have hA : ∀ q : Nat, s.heap.size ≤ q → (fun q : Nat => s.heap.size ≤ q) q := fun _ h => h
  have hbA : ¬ (fun q : Nat => s.heap.size ≤ q) b := Nat.not_le.mpr hbl
  obtain ⟨ρ, W1, W2, f6, f7, g1, g2, g3, g4, g5⟩ := opx_feed l D cy hI (xs (nI i + (1 : Int32)).toNatClampNeg)
  refine lv_aload_n hx hb dL_law_369 rfl (lv_at hl 1 rfl) ?_
  refine lv_aload_n hx hb dL_law_370 rfl (lv_at hl 0 rfl) ?_
  refine lv_iload_n hx hb dL_law_371 rfl (lv_at hl 3 rfl) ?_
  refine lv_iconst (v := (1 : Int32)) hx hb dL_law_372 (by decide) ?_
  refine lv_iadd hx hb dL_law_373 ?_
  refine va_sld (i := (nI i + (1 : Int32))) hx hb hX hbl hbA hS (vp_at (k := 1) (by omega) hL) dL_law_374 ?_
  refine lawI (As := [.int (xs (nI i + (1 : Int32)).toNatClampNeg)]) (rest := []) (ci := 6) (n := 1) mw16_17 mw16_18 mw16_19 mw1_2 mw16_20 rfl rfl hd_X6_feed hx hb hml hown hG hKX g2 ⟨Nat.le_of_ble_eq_true rfl, Nat.le_of_ble_eq_true rfl⟩ hc hP hD hS hA g1 rfl hl.1 rfl (Nat.le_of_ble_eq_true rfl) dL_law_375 (fun H locs hP hD hS => ?_)
  refine lv_aload_n hx hb dL_law_378 rfl (lv_at hl 2 rfl) ?_
  refine lv_aload_n hx hb dL_law_379 rfl (lv_at hl 0 rfl) ?_
  refine lv_iload_n hx hb dL_law_380 rfl (lv_at hl 3 rfl) ?_
  refine lv_iconst (v := (1 : Int32)) hx hb dL_law_381 (by decide) ?_
  refine lv_iadd hx hb dL_law_382 ?_
  refine va_sld (i := (nI i + (1 : Int32))) hx hb hX hbl hbA hS (vp_at (k := 1) (by omega) hL) dL_law_383 ?_
  refine lawI (As := [.int (xs (nI i + (1 : Int32)).toNatClampNeg)]) (rest := [.int ρ]) (ci := 7) (n := 1) mw17_2 mw17_3 mw17_4 mw1_5 mw17_5 rfl rfl hd_X7_feed hx hb hml hown hG hKX g4 ⟨Nat.le_of_ble_eq_true rfl, Nat.le_of_ble_eq_true rfl⟩ hc hP hD hS hA g3 rfl hl.1 rfl (Nat.le_of_ble_eq_true rfl) dL_law_384 (fun H locs hP hD hS => ?_)
  refine lv_icmp_eq (tgt := 1108) hx hb dL_law_387 (by decide) (fun _ => ?_) (fun h => absurd rfl h)
  exact kk W2 H locs g5 hP hD hS
set_option maxHeartbeats 4000000 in
set_option maxRecDepth 100000 in
theorem lc_6 {p : Program} {l : Launch} {e : Env} {s : State} {m : MethodId} {below : List Frame} {meth : Method} {c : Code} {D : va_G} {cy : Nat → ClassId} {b L : Nat} {xs : Nat → Int32} (C0 : lw_At p s m meth c b L xs) (hG : ∀ w ∈ GW, w.before #[Value.ref b] s = true) (hKX : KX D cy s) {i : Nat} (hi : i + 6 ≤ L) (hL : L ≤ 3072) {x m7 : Nat} {W0 : va_W} (hI : INV cy x m7 W0) {cells slots : Nat} (hc : cells ≤ room_1.cells ∧ slots ≤ room_1.slots) {H : Heap} {locs : List Loc} {ls : Array Slot} (hP : va_P D vwCl W0 H) (hD : va_D (fun q : Nat => s.heap.size ≤ q) W0) (hS : va_S (fun q : Nat => s.heap.size ≤ q) s.heap H locs) (hl : lv_has ls 4 [(0, .ref b), (1, .ref x), (2, .ref m7), (3, .int (nI i))]) (kk : ∀ (W' : va_W) (H' : Heap) (locs' : List Loc), INV cy x m7 W' → va_P D vwCl W' H' → va_D (fun q : Nat => s.heap.size ≤ q) W' → va_S (fun q : Nat => s.heap.size ≤ q) s.heap H' locs' → W p l e room_1 s m #[Value.ref b] below meth c H' locs' cells slots (lw_Z below #[Value.ref b] s) (F0 m 1108 ls [])) : W p l e room_1 s m #[Value.ref b] below meth c H locs cells slots (lw_Z below #[Value.ref b] s) (F0 m 392 ls []) := by
  obtain ⟨hx, hb, hr, hml, hown, hts, hX, hbl, hlocks, hgv⟩ := C0
  have hA : ∀ q : Nat, s.heap.size ≤ q → (fun q : Nat => s.heap.size ≤ q) q := fun _ h => h
  have hbA : ¬ (fun q : Nat => s.heap.size ≤ q) b := Nat.not_le.mpr hbl
  obtain ⟨ρ, W1, W2, f6, f7, g1, g2, g3, g4, g5⟩ := opx_read l D cy hI
  refine lv_aload_n hx hb dL_law_392 rfl (lv_at hl 1 rfl) ?_
  refine lawI (As := []) (rest := []) (ci := 6) (n := 0) mw17_8 mw17_9 mw17_10 mw1_2 mw17_11 rfl rfl hd_X6_read hx hb hml hown hG hKX g2 ⟨Nat.le_of_ble_eq_true rfl, Nat.le_of_ble_eq_true rfl⟩ hc hP hD hS hA g1 rfl hl.1 rfl (Nat.le_of_ble_eq_true rfl) dL_law_393 (fun H locs hP hD hS => ?_)
  refine lv_aload_n hx hb dL_law_396 rfl (lv_at hl 2 rfl) ?_
  refine lawI (As := []) (rest := [.int ρ]) (ci := 7) (n := 0) mw18_19 mw18_20 mw18_21 mw1_5 mw18_22 rfl rfl hd_X7_read hx hb hml hown hG hKX g4 ⟨Nat.le_of_ble_eq_true rfl, Nat.le_of_ble_eq_true rfl⟩ hc hP hD hS hA g3 rfl hl.1 rfl (Nat.le_of_ble_eq_true rfl) dL_law_397 (fun H locs hP hD hS => ?_)
  refine lv_icmp_eq (tgt := 1108) hx hb dL_law_400 (by decide) (fun _ => ?_) (fun h => absurd rfl h)
  exact kk W2 H locs g5 hP hD hS
set_option maxHeartbeats 4000000 in
set_option maxRecDepth 100000 in
theorem lc_7 {p : Program} {l : Launch} {e : Env} {s : State} {m : MethodId} {below : List Frame} {meth : Method} {c : Code} {D : va_G} {cy : Nat → ClassId} {b L : Nat} {xs : Nat → Int32} (C0 : lw_At p s m meth c b L xs) (hG : ∀ w ∈ GW, w.before #[Value.ref b] s = true) (hKX : KX D cy s) {i : Nat} (hi : i + 6 ≤ L) (hL : L ≤ 3072) {x m7 : Nat} {W0 : va_W} (hI : INV cy x m7 W0) {cells slots : Nat} (hc : cells ≤ room_1.cells ∧ slots ≤ room_1.slots) {H : Heap} {locs : List Loc} {ls : Array Slot} (hP : va_P D vwCl W0 H) (hD : va_D (fun q : Nat => s.heap.size ≤ q) W0) (hS : va_S (fun q : Nat => s.heap.size ≤ q) s.heap H locs) (hl : lv_has ls 4 [(0, .ref b), (1, .ref x), (2, .ref m7), (3, .int (nI i))]) (kk : ∀ (W' : va_W) (H' : Heap) (locs' : List Loc), INV cy x m7 W' → va_P D vwCl W' H' → va_D (fun q : Nat => s.heap.size ≤ q) W' → va_S (fun q : Nat => s.heap.size ≤ q) s.heap H' locs' → W p l e room_1 s m #[Value.ref b] below meth c H' locs' cells slots (lw_Z below #[Value.ref b] s) (F0 m 1108 ls [])) : W p l e room_1 s m #[Value.ref b] below meth c H locs cells slots (lw_Z below #[Value.ref b] s) (F0 m 405 ls []) := by
  obtain ⟨hx, hb, hr, hml, hown, hts, hX, hbl, hlocks, hgv⟩ := C0
  have hA : ∀ q : Nat, s.heap.size ≤ q → (fun q : Nat => s.heap.size ≤ q) q := fun _ h => h
  have hbA : ¬ (fun q : Nat => s.heap.size ≤ q) b := Nat.not_le.mpr hbl
  obtain ⟨ρ, W1, W2, f6, f7, g1, g2, g3, g4, g5⟩ := opx_ring l D cy hI (xs (nI i + (1 : Int32)).toNatClampNeg) (xs (nI i + (2 : Int32)).toNatClampNeg)
  refine lv_aload_n hx hb dL_law_405 rfl (lv_at hl 1 rfl) ?_
  refine lv_aload_n hx hb dL_law_406 rfl (lv_at hl 0 rfl) ?_
  refine lv_iload_n hx hb dL_law_407 rfl (lv_at hl 3 rfl) ?_
  refine lv_iconst (v := (1 : Int32)) hx hb dL_law_408 (by decide) ?_
  refine lv_iadd hx hb dL_law_409 ?_
  refine va_sld (i := (nI i + (1 : Int32))) hx hb hX hbl hbA hS (vp_at (k := 1) (by omega) hL) dL_law_410 ?_
  refine lv_aload_n hx hb dL_law_411 rfl (lv_at hl 0 rfl) ?_
  refine lv_iload_n hx hb dL_law_412 rfl (lv_at hl 3 rfl) ?_
  refine lv_iconst (v := (2 : Int32)) hx hb dL_law_413 (by decide) ?_
  refine lv_iadd hx hb dL_law_414 ?_
  refine va_sld (i := (nI i + (2 : Int32))) hx hb hX hbl hbA hS (vp_at (k := 2) (by omega) hL) dL_law_415 ?_
  refine lawI (As := [.int (xs (nI i + (1 : Int32)).toNatClampNeg), .int (xs (nI i + (2 : Int32)).toNatClampNeg)]) (rest := []) (ci := 6) (n := 2) mw20_4 mw20_5 mw20_6 mw1_2 mw20_7 rfl rfl hd_X6_ring hx hb hml hown hG hKX g2 ⟨Nat.le_of_ble_eq_true rfl, Nat.le_of_ble_eq_true rfl⟩ hc hP hD hS hA g1 rfl hl.1 rfl (Nat.le_of_ble_eq_true rfl) dL_law_416 (fun H locs hP hD hS => ?_)
  refine lv_aload_n hx hb dL_law_419 rfl (lv_at hl 2 rfl) ?_
  refine lv_aload_n hx hb dL_law_420 rfl (lv_at hl 0 rfl) ?_
  refine lv_iload_n hx hb dL_law_421 rfl (lv_at hl 3 rfl) ?_
  refine lv_iconst (v := (1 : Int32)) hx hb dL_law_422 (by decide) ?_
  refine lv_iadd hx hb dL_law_423 ?_
  refine va_sld (i := (nI i + (1 : Int32))) hx hb hX hbl hbA hS (vp_at (k := 1) (by omega) hL) dL_law_424 ?_
  refine lv_aload_n hx hb dL_law_425 rfl (lv_at hl 0 rfl) ?_
  refine lv_iload_n hx hb dL_law_426 rfl (lv_at hl 3 rfl) ?_
  refine lv_iconst (v := (2 : Int32)) hx hb dL_law_427 (by decide) ?_
  refine lv_iadd hx hb dL_law_428 ?_
  refine va_sld (i := (nI i + (2 : Int32))) hx hb hX hbl hbA hS (vp_at (k := 2) (by omega) hL) dL_law_429 ?_
  refine lawI (As := [.int (xs (nI i + (1 : Int32)).toNatClampNeg), .int (xs (nI i + (2 : Int32)).toNatClampNeg)]) (rest := [.int ρ]) (ci := 7) (n := 2) mw20_10 mw20_11 mw20_12 mw1_5 mw20_13 rfl rfl hd_X7_ring hx hb hml hown hG hKX g4 ⟨Nat.le_of_ble_eq_true rfl, Nat.le_of_ble_eq_true rfl⟩ hc hP hD hS hA g3 rfl hl.1 rfl (Nat.le_of_ble_eq_true rfl) dL_law_430 (fun H locs hP hD hS => ?_)
  refine lv_icmp_eq (tgt := 1108) hx hb dL_law_433 (by decide) (fun _ => ?_) (fun h => absurd rfl h)
  exact kk W2 H locs g5 hP hD hS
