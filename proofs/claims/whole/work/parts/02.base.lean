/-! the one list of words that all contracts stand on; rooms by depth; contracts of two kinds (RO: the heap stays; RW: a world w0 becomes w1); call rows over them -/
abbrev GW : List Cond := wsL_law
theorem GW_good : wsL_law.all goodWord = true := by decide +kernel
theorem gw_ok {w : Cond} (h : w ∈ GW) : w ∈ GW ∧ ((w.onTables && w.keeps) = true ∨ ∃ ty, w = .arrayClass ty) := ⟨h, good_of_word (List.all_eq_true.mp GW_good w h)⟩
theorem gw_cons {w c0 : Cond} (h0 : c0 ∈ GW) (h : w ∈ c0 :: GW) : w ∈ GW := by
  rcases List.mem_cons.mp h with e | e
  · rw [e]; exact h0
  · exact e
theorem gV {own C : String} {idx : Nat} {y : MethodName} {cy : Cond} (h1 : Cond.methodLink own idx y ∈ GW) (h2 : Cond.instanceMethod y ∈ GW) (h3 : Cond.selects C y y ∈ GW) (h4 : Cond.initialized C ∈ GW) (h5 : cy ∈ GW) : GoodIn GW (wsV own idx C y (cy :: GW)) := by
  intro w hw
  refine gw_ok ?_
  unfold wsV at hw
  rcases List.mem_append.mp hw with h | h
  · simp only [List.mem_cons, List.not_mem_nil, or_false] at h
    rcases h with e | e | e | e <;> rw [e] <;> assumption
  · exact gw_cons h5 h
theorem gS {own : String} {idx : Nat} {y : MethodName} {cy : Cond} (h1 : Cond.methodLink own idx y ∈ GW) (h2 : Cond.static y ∈ GW) (h4 : Cond.initialized y.cls ∈ GW) (h5 : cy ∈ GW) : GoodIn GW (va_wsS own idx y (cy :: GW)) := by
  intro w hw
  refine gw_ok ?_
  unfold va_wsS at hw
  rcases List.mem_append.mp hw with h | h
  · simp only [List.mem_cons, List.not_mem_nil, or_false] at h
    rcases h with e | e | e <;> rw [e] <;> assumption
  · exact gw_cons h5 h
theorem gC {cy : Cond} (h5 : cy ∈ GW) : GoodIn GW (cy :: GW) := fun _ h => gw_ok (gw_cons h5 h)
abbrev rmD (d : Nat) : Room := { frames := d, cells := 0, slots := 0, locals := 38 * d }
abbrev rmC (d k n : Nat) : Room := { frames := d, cells := k, slots := n, locals := 38 * d }
abbrev tyL (cy : Nat → ClassId) : List (ClassId × FieldType) := [(cy 0, .int), (cy 1, .byte), (cy 2, .long), (cy 3, .object "ClaimLadder$Tape")]
def KX (D : va_G) (cy : Nat → ClassId) (U : State) : Prop := va_K D vwCl (tyL cy) U ∧ va_Nw (.methodLinkNest RX0 83 yX6_has "ClaimLadder") U ∧ va_Nw (.methodLinkNest RX3 43 yX6_has "ClaimLadder") U
theorem KX.calling {D : va_G} {cy : Nat → ClassId} {U : State} {g : JFrame} {mk : MethodId} {a : Array Value} (h : KX D cy U) : KX D cy (U.calling g mk a) := ⟨va_K.moved (u := U) (U := U.calling g mk a) (Vm.Alike.refl U.vm) h.1, va_Nw.same rfl rfl h.2.1, va_Nw.same rfl rfl h.2.2⟩
theorem KX.warm {D : va_G} {cy : Nat → ClassId} {s U : State} (hW : s.WarmedH U.vm) (h : KX D cy s) : KX D cy U := ⟨va_K.moved hW.alike h.1, va_Nw.warmM hW h.2.1, va_Nw.warmM hW h.2.2⟩
def RoI (l : Launch) (D : va_G) (cy : Nat → ClassId) (y : MethodName) (cw : Cond) (d : Nat) (w : va_W) (av : List Value) (ρ : Int32) : Prop := Met l y (cw :: GW) (rmD d) (va_Pc av (fun U => va_P D vwCl w U.heap ∧ KX D cy U)) (vp_Si (fun r => r = ρ)) 0 0 (fun _ => False)
def RoL (l : Launch) (D : va_G) (cy : Nat → ClassId) (y : MethodName) (cw : Cond) (d : Nat) (w : va_W) (av : List Value) (ρ : Int64) : Prop := Met l y (cw :: GW) (rmD d) (va_Pc av (fun U => va_P D vwCl w U.heap ∧ KX D cy U)) (vp_Sl (fun r => r = ρ)) 0 0 (fun _ => False)
def RwI {S : Type} (l : Launch) (D : va_G) (cy : Nat → ClassId) (y : MethodName) (cw : Cond) (d : Nat) (w0 : va_W) (av : List Value) (post : Int32 → S → Prop) (w1 : S → va_W) : Prop := ∀ sz : Nat, Met l y (cw :: GW) (rmD d) (va_Pc av (fun U => U.heap.size = sz ∧ va_P D vwCl w0 U.heap ∧ KX D cy U ∧ va_D (fun _ => True) w0)) (va_Qi post (fun u t => va_P D vwCl (w1 u) t.heap ∧ va_D (va_A w0 sz) (w1 u)) (va_A w0 sz)) 0 0 (va_A w0 sz)
def RwL {S : Type} (l : Launch) (D : va_G) (cy : Nat → ClassId) (y : MethodName) (cw : Cond) (d : Nat) (w0 : va_W) (av : List Value) (post : Int64 → S → Prop) (w1 : S → va_W) : Prop := ∀ sz : Nat, Met l y (cw :: GW) (rmD d) (va_Pc av (fun U => U.heap.size = sz ∧ va_P D vwCl w0 U.heap ∧ KX D cy U ∧ va_D (fun _ => True) w0)) (va_Ql post (fun u t => va_P D vwCl (w1 u) t.heap ∧ va_D (va_A w0 sz) (w1 u)) (va_A w0 sz)) 0 0 (va_A w0 sz)
def RwV {S : Type} (l : Launch) (D : va_G) (cy : Nat → ClassId) (y : MethodName) (cw : Cond) (d : Nat) (w0 : va_W) (av : List Value) (post : S → Prop) (w1 : S → va_W) : Prop := ∀ sz : Nat, Met l y (cw :: GW) (rmD d) (va_Pc av (fun U => U.heap.size = sz ∧ va_P D vwCl w0 U.heap ∧ KX D cy U ∧ va_D (fun _ => True) w0)) (va_Qv post (fun u t => va_P D vwCl (w1 u) t.heap ∧ va_D (va_A w0 sz) (w1 u)) (va_A w0 sz)) 0 0 (va_A w0 sz)
theorem fm_of {ws ws' : va_W} {is : List Nat} (h : is.map (fun i => ws[i]?) = ws'.map some) : is.filterMap (fun i => ws[i]?) = ws' := by
  have h1 : is.filterMap (fun i => ws[i]?) = (is.map (fun i => ws[i]?)).filterMap id := by rw [List.filterMap_map]; rfl
  rw [h1, h, List.filterMap_map]
  exact List.filterMap_some
theorem va_P.pm {D : va_G} {cl : List vw_C} {ws ws' : va_W} {H : Heap} (h : va_P D cl ws H) (is : List Nat) (hs : is.map (fun i => ws[i]?) = ws'.map some) : va_P D cl ws' H := h.sub is (fm_of hs)
section CB
variable {p : Program} {l : Launch} {e : Env} {R : Room} {s : State} {m : MethodId} {args : Array Value} {below : List Frame} {meth : Method} {c : Code} {H : Heap} {locs : List Loc} {cells slots : Nat} {Q : State → Prop}
variable {cc : ByteArray} {pc : Nat} {ls : Array Slot} {rest st : List Value} {D : va_G} {cy : Nat → ClassId} {A : Nat → Prop} {a : Nat} {ws : va_W} {H0 : Heap}
theorem roi_k {ρ : Int32} {av : Array Value} (hr : va_Run p l e R s m args below meth c H locs cells slots 0 0 (F0 m pc ls st) rest (vp_Si (fun r => r = ρ) av) (fun _ => False)) (kk : W p l e R s m args below meth c H locs cells slots Q (F0 m (pc + 3) ls (.int ρ :: rest))) : W p l e R s m args below meth c H locs cells slots Q (F0 m pc ls st) := by
  intro T hT X
  obtain ⟨v, st₀, t, T', L, h0, X', hL, e1, e2, ⟨r, hv, hp, hh⟩, st⟩ := hr T hT X
  cases hv
  subst hp
  obtain ⟨t2, a1, b1⟩ := kk T' (by rw [e1, hh, h0]) (Stand.forget X' (fun q h => (hL q h).elim))
  exact ⟨t2, st t2 a1, b1⟩
theorem rol_k {ρ : Int64} {av : Array Value} (hr : va_Run p l e R s m args below meth c H locs cells slots 0 0 (F0 m pc ls st) rest (vp_Sl (fun r => r = ρ) av) (fun _ => False)) (kk : W p l e R s m args below meth c H locs cells slots Q (F0 m (pc + 3) ls (.long ρ :: rest))) : W p l e R s m args below meth c H locs cells slots Q (F0 m pc ls st) := by
  intro T hT X
  obtain ⟨v, st₀, t, T', L, h0, X', hL, e1, e2, ⟨r, hv, hp, hh⟩, st⟩ := hr T hT X
  cases hv
  subst hp
  obtain ⟨t2, a1, b1⟩ := kk T' (by rw [e1, hh, h0]) (Stand.forget X' (fun q h => (hL q h).elim))
  exact ⟨t2, st t2 a1, b1⟩
theorem cRoV {own C : String} {index : Nat} {y : MethodName} {bytes : ByteArray} {maxL nL n dc ci q0 b : Nat} {ret : Option FieldType} {wc : va_W} {As fs : List Value} {ρ : Int32} {q : vw_C} (h1 : Cond.methodLink own index y ∈ GW) (h2 : Cond.instanceMethod y ∈ GW) (h3 : Cond.selects C y y ∈ GW) (h4 : Cond.initialized C ∈ GW) (h5 : Cond.code y bytes maxL ret ∈ GW) (hq : vwCl[ci]? = some q) (hqC : q.1 = C)
    (hd : y.cls = C ∧ y.cls ≠ "java/lang/invoke/MethodHandle" ∧ y.cls ≠ "java/lang/invoke/VarHandle" ∧ (parseMethodDescriptor y.desc).map (fun d => d.parameters.length) = some n)
    (hx : p.tables.exec = Jvm.exec) (hb : c.code = cc) (hml : c.maxLocals = nL) (hown : s.vm.findClass own = some m.cls) (hG : ∀ w ∈ GW, w.before args s = true) (hKX : KX D cy s)
    (hM : RoI l D cy y (.code y bytes maxL ret) dc wc (.ref b :: As) ρ) (hR : dc + 1 ≤ R.frames ∧ 8 + (maxL + 11) + 38 * dc ≤ R.locals) (hc : cells ≤ R.cells ∧ slots ≤ R.slots)
    (hP : va_P D vwCl wc H) (he : wc[q0]? = some (b, .inr (ci, fs))) (hn : As.length = n) (hsize : ls.size = nL) (hst : st = As.reverse ++ .ref b :: rest) (hW : (rest.map fun v => v.category).sum ≤ 8) (hdg : decode cc pc = .ok (.invokevirtual index, 3))
    (kk : W p l e R s m args below meth c H locs cells slots Q (F0 m (pc + 3) ls (.int ρ :: rest))) : W p l e R s m args below meth c H locs cells slots Q (F0 m pc ls st) := by
  subst hqC
  exact roi_k (va_runV (As := As) (rest := rest) ⟨hx, hb, hml, hown, hG⟩ hM (cwV n hG (gV h1 h2 h3 h4 h5) rfl rfl rfl hd hR) ⟨fun a U g mk q => ⟨q.1, q.2.1, q.2.2.calling⟩, va_recv hKX.1 hP hq he, fun U hU hW => ⟨rfl, by rw [hU]; exact hP, hKX.warm hW⟩⟩ rfl hn hsize hst (lv_room hW) hdg hc) kk
theorem cRoVL {own C : String} {index : Nat} {y : MethodName} {bytes : ByteArray} {maxL nL n dc ci q0 b : Nat} {ret : Option FieldType} {wc : va_W} {As fs : List Value} {ρ : Int64} {q : vw_C} (h1 : Cond.methodLink own index y ∈ GW) (h2 : Cond.instanceMethod y ∈ GW) (h3 : Cond.selects C y y ∈ GW) (h4 : Cond.initialized C ∈ GW) (h5 : Cond.code y bytes maxL ret ∈ GW) (hq : vwCl[ci]? = some q) (hqC : q.1 = C)
    (hd : y.cls = C ∧ y.cls ≠ "java/lang/invoke/MethodHandle" ∧ y.cls ≠ "java/lang/invoke/VarHandle" ∧ (parseMethodDescriptor y.desc).map (fun d => d.parameters.length) = some n)
    (hx : p.tables.exec = Jvm.exec) (hb : c.code = cc) (hml : c.maxLocals = nL) (hown : s.vm.findClass own = some m.cls) (hG : ∀ w ∈ GW, w.before args s = true) (hKX : KX D cy s)
    (hM : RoL l D cy y (.code y bytes maxL ret) dc wc (.ref b :: As) ρ) (hR : dc + 1 ≤ R.frames ∧ 8 + (maxL + 11) + 38 * dc ≤ R.locals) (hc : cells ≤ R.cells ∧ slots ≤ R.slots)
    (hP : va_P D vwCl wc H) (he : wc[q0]? = some (b, .inr (ci, fs))) (hn : As.length = n) (hsize : ls.size = nL) (hst : st = As.reverse ++ .ref b :: rest) (hW : (rest.map fun v => v.category).sum ≤ 8) (hdg : decode cc pc = .ok (.invokevirtual index, 3))
    (kk : W p l e R s m args below meth c H locs cells slots Q (F0 m (pc + 3) ls (.long ρ :: rest))) : W p l e R s m args below meth c H locs cells slots Q (F0 m pc ls st) := by
  subst hqC
  exact rol_k (va_runV (As := As) (rest := rest) ⟨hx, hb, hml, hown, hG⟩ hM (cwV n hG (gV h1 h2 h3 h4 h5) rfl rfl rfl hd hR) ⟨fun a U g mk q => ⟨q.1, q.2.1, q.2.2.calling⟩, va_recv hKX.1 hP hq he, fun U hU hW => ⟨rfl, by rw [hU]; exact hP, hKX.warm hW⟩⟩ rfl hn hsize hst (lv_room hW) hdg hc) kk
theorem cRoS {own : String} {index : Nat} {y : MethodName} {bytes : ByteArray} {maxL nL n dc : Nat} {ret : Option FieldType} {wc : va_W} {As : List Value} {ρ : Int32} (h1 : Cond.methodLink own index y ∈ GW) (h2 : Cond.static y ∈ GW) (h4 : Cond.initialized y.cls ∈ GW) (h5 : Cond.code y bytes maxL ret ∈ GW)
    (hd : y.cls ≠ "java/lang/invoke/MethodHandle" ∧ y.cls ≠ "java/lang/invoke/VarHandle" ∧ (parseMethodDescriptor y.desc).map (fun d => d.parameters.length) = some n)
    (hx : p.tables.exec = Jvm.exec) (hb : c.code = cc) (hml : c.maxLocals = nL) (hown : s.vm.findClass own = some m.cls) (hG : ∀ w ∈ GW, w.before args s = true) (hKX : KX D cy s)
    (hM : RoI l D cy y (.code y bytes maxL ret) dc wc As ρ) (hR : dc + 1 ≤ R.frames ∧ 8 + (maxL + 11) + 38 * dc ≤ R.locals) (hc : cells ≤ R.cells ∧ slots ≤ R.slots)
    (hP : va_P D vwCl wc H) (hn : As.length = n) (hsize : ls.size = nL) (hst : st = As.reverse ++ rest) (hW : (rest.map fun v => v.category).sum ≤ 8) (hdg : decode cc pc = .ok (.invokestatic index, 3))
    (kk : W p l e R s m args below meth c H locs cells slots Q (F0 m (pc + 3) ls (.int ρ :: rest))) : W p l e R s m args below meth c H locs cells slots Q (F0 m pc ls st) :=
  roi_k (va_runS (As := As) (rest := rest) ⟨hx, hb, hml, hown, hG⟩ hM (va_cwS n hG (gS h1 h2 h4 h5) rfl rfl rfl hd hR) ⟨fun a U g mk q => ⟨q.1, q.2.1, q.2.2.calling⟩, fun U hU hW => ⟨rfl, by rw [hU]; exact hP, hKX.warm hW⟩⟩ rfl hn hsize hst (lv_room hW) hdg hc) kk
theorem cRoSL {own : String} {index : Nat} {y : MethodName} {bytes : ByteArray} {maxL nL n dc : Nat} {ret : Option FieldType} {wc : va_W} {As : List Value} {ρ : Int64} (h1 : Cond.methodLink own index y ∈ GW) (h2 : Cond.static y ∈ GW) (h4 : Cond.initialized y.cls ∈ GW) (h5 : Cond.code y bytes maxL ret ∈ GW)
    (hd : y.cls ≠ "java/lang/invoke/MethodHandle" ∧ y.cls ≠ "java/lang/invoke/VarHandle" ∧ (parseMethodDescriptor y.desc).map (fun d => d.parameters.length) = some n)
    (hx : p.tables.exec = Jvm.exec) (hb : c.code = cc) (hml : c.maxLocals = nL) (hown : s.vm.findClass own = some m.cls) (hG : ∀ w ∈ GW, w.before args s = true) (hKX : KX D cy s)
    (hM : RoL l D cy y (.code y bytes maxL ret) dc wc As ρ) (hR : dc + 1 ≤ R.frames ∧ 8 + (maxL + 11) + 38 * dc ≤ R.locals) (hc : cells ≤ R.cells ∧ slots ≤ R.slots)
    (hP : va_P D vwCl wc H) (hn : As.length = n) (hsize : ls.size = nL) (hst : st = As.reverse ++ rest) (hW : (rest.map fun v => v.category).sum ≤ 8) (hdg : decode cc pc = .ok (.invokestatic index, 3))
    (kk : W p l e R s m args below meth c H locs cells slots Q (F0 m (pc + 3) ls (.long ρ :: rest))) : W p l e R s m args below meth c H locs cells slots Q (F0 m pc ls st) :=
  rol_k (va_runS (As := As) (rest := rest) ⟨hx, hb, hml, hown, hG⟩ hM (va_cwS n hG (gS h1 h2 h4 h5) rfl rfl rfl hd hR) ⟨fun a U g mk q => ⟨q.1, q.2.1, q.2.2.calling⟩, fun U hU hW => ⟨rfl, by rw [hU]; exact hP, hKX.warm hW⟩⟩ rfl hn hsize hst (lv_room hW) hdg hc) kk
theorem cRoN {own : String} {index : Nat} {y : MethodName} {host : String} {bytes : ByteArray} {maxL nL n dc : Nat} {ret : Option FieldType} {wc : va_W} {As : List Value} {ρ : Int32} (h2 : Cond.static y ∈ GW) (h4 : Cond.initialized y.cls ∈ GW) (h5 : Cond.code y bytes maxL ret ∈ GW)
    (hd : y.cls ≠ "java/lang/invoke/MethodHandle" ∧ y.cls ≠ "java/lang/invoke/VarHandle" ∧ (parseMethodDescriptor y.desc).map (fun d => d.parameters.length) = some n) (h1 : va_Nw (.methodLinkNest own index y host) s)
    (hx : p.tables.exec = Jvm.exec) (hb : c.code = cc) (hml : c.maxLocals = nL) (hown : s.vm.findClass own = some m.cls) (hG : ∀ w ∈ GW, w.before args s = true) (hKX : KX D cy s)
    (hM : RoI l D cy y (.code y bytes maxL ret) dc wc As ρ) (hR : dc + 1 ≤ R.frames ∧ 8 + (maxL + 11) + 38 * dc ≤ R.locals) (hc : cells ≤ R.cells ∧ slots ≤ R.slots)
    (hP : va_P D vwCl wc H) (hn : As.length = n) (hsize : ls.size = nL) (hst : st = As.reverse ++ rest) (hW : (rest.map fun v => v.category).sum ≤ 8) (hdg : decode cc pc = .ok (.invokestatic index, 3))
    (kk : W p l e R s m args below meth c H locs cells slots Q (F0 m (pc + 3) ls (.int ρ :: rest))) : W p l e R s m args below meth c H locs cells slots Q (F0 m pc ls st) :=
  roi_k (va_runSN (As := As) (rest := rest) ⟨hx, hb, hml, hown, hG⟩ hM ⟨va_cnB n hG (gC h5) rfl rfl rfl h1 (hG _ h4) hd hR, hG _ h2, trivial⟩ ⟨fun a U g mk q => ⟨q.1, q.2.1, q.2.2.calling⟩, fun U hU hW => ⟨rfl, by rw [hU]; exact hP, hKX.warm hW⟩⟩ rfl hn hsize hst (lv_room hW) hdg hc) kk
theorem cRwV {S : Type} {own C : String} {index : Nat} {y : MethodName} {bytes : ByteArray} {maxL nL n dc ci q0 b : Nat} {ret : Option FieldType} {wc : va_W} {As fs : List Value} {post : Int32 → S → Prop} {w1 : S → va_W} {q : vw_C} (h1 : Cond.methodLink own index y ∈ GW) (h2 : Cond.instanceMethod y ∈ GW) (h3 : Cond.selects C y y ∈ GW) (h4 : Cond.initialized C ∈ GW) (h5 : Cond.code y bytes maxL ret ∈ GW) (hq : vwCl[ci]? = some q) (hqC : q.1 = C)
    (hd : y.cls = C ∧ y.cls ≠ "java/lang/invoke/MethodHandle" ∧ y.cls ≠ "java/lang/invoke/VarHandle" ∧ (parseMethodDescriptor y.desc).map (fun d => d.parameters.length) = some n)
    (hx : p.tables.exec = Jvm.exec) (hb : c.code = cc) (hml : c.maxLocals = nL) (hown : s.vm.findClass own = some m.cls) (hG : ∀ w ∈ GW, w.before args s = true) (hKX : KX D cy s)
    (hM : RwI l D cy y (.code y bytes maxL ret) dc wc (.ref b :: As) post w1) (hR : dc + 1 ≤ R.frames ∧ 8 + (maxL + 11) + 38 * dc ≤ R.locals) (hc : cells ≤ R.cells ∧ slots ≤ R.slots)
    (hP : va_P D vwCl ws H) (hD : va_D A ws) (hS : va_S A H0 H locs) (hA : ∀ q, H0.size ≤ q → A q) (isC isR pm : List Nat) {wr : va_W} {wn : S → va_W} (hC : isC.map (fun i => ws[i]?) = wc.map some) (hnC : va_nd isC = true) (hRr : isR.map (fun i => ws[i]?) = wr.map some) (hnR : va_nd isR = true) (hdis : ∀ i ∈ isR, i ∉ isC) (hpm : ∀ u, pm.map (fun i => (wr ++ w1 u)[i]?) = (wn u).map some) (hnp : va_nd pm = true)
    (he : wc[q0]? = some (b, .inr (ci, fs))) (hn : As.length = n) (hsize : ls.size = nL) (hst : st = As.reverse ++ .ref b :: rest) (hW : (rest.map fun v => v.category).sum ≤ 8) (hdg : decode cc pc = .ok (.invokevirtual index, 3))
    (kk : ∀ (r : Int32) (u : S) (H1 : Heap) (locs1 : List Loc), post r u → va_P D vwCl (wn u) H1 → va_D A (wn u) → va_S A H0 H1 locs1 → W p l e R s m args below meth c H1 locs1 cells slots Q (F0 m (pc + 3) ls (.int r :: rest))) : W p l e R s m args below meth c H locs cells slots Q (F0 m pc ls st) := by
  subst hqC
  have hPc := hP.pm isC hC
  have hDc := hD.sub isC hnC hC
  have hF := va_free hD hS hA isC hC
  refine va_calli (va_runV (As := As) (rest := rest) ⟨hx, hb, hml, hown, hG⟩ (hM H.size) (cwV n hG (gV h1 h2 h3 h4 h5) rfl rfl rfl hd hR) ⟨fun a U g mk q => ⟨q.1, q.2.1, q.2.2.1, q.2.2.2.1.calling, q.2.2.2.2⟩, va_recv hKX.1 hPc hq he, fun U hU hW => ⟨rfl, by rw [hU], by rw [hU]; exact hPc, hKX.warm hW, hDc.weaken (fun _ _ _ _ => trivial)⟩⟩ rfl hn hsize hst (lv_room hW) hdg hc) hS (fun q _ h => hF q h) hF (fun r u t H1 locs1 ht hvm hw hB hz1 hk1 hS1 => ?_)
  obtain ⟨hP1, hD1⟩ := hB
  rw [ht] at hP1
  obtain ⟨hPj, hDj⟩ := va_join hP hD isC isR hC hRr hnR hdis hk1 hF hP1 hD1
  exact kk r u H1 locs1 hw (hPj.pm pm (hpm u)) (hDj.sub pm hnp (hpm u)) hS1
theorem cRwVL {S : Type} {own C : String} {index : Nat} {y : MethodName} {bytes : ByteArray} {maxL nL n dc ci q0 b : Nat} {ret : Option FieldType} {wc : va_W} {As fs : List Value} {post : Int64 → S → Prop} {w1 : S → va_W} {q : vw_C} (h1 : Cond.methodLink own index y ∈ GW) (h2 : Cond.instanceMethod y ∈ GW) (h3 : Cond.selects C y y ∈ GW) (h4 : Cond.initialized C ∈ GW) (h5 : Cond.code y bytes maxL ret ∈ GW) (hq : vwCl[ci]? = some q) (hqC : q.1 = C)
    (hd : y.cls = C ∧ y.cls ≠ "java/lang/invoke/MethodHandle" ∧ y.cls ≠ "java/lang/invoke/VarHandle" ∧ (parseMethodDescriptor y.desc).map (fun d => d.parameters.length) = some n)
    (hx : p.tables.exec = Jvm.exec) (hb : c.code = cc) (hml : c.maxLocals = nL) (hown : s.vm.findClass own = some m.cls) (hG : ∀ w ∈ GW, w.before args s = true) (hKX : KX D cy s)
    (hM : RwL l D cy y (.code y bytes maxL ret) dc wc (.ref b :: As) post w1) (hR : dc + 1 ≤ R.frames ∧ 8 + (maxL + 11) + 38 * dc ≤ R.locals) (hc : cells ≤ R.cells ∧ slots ≤ R.slots)
    (hP : va_P D vwCl ws H) (hD : va_D A ws) (hS : va_S A H0 H locs) (hA : ∀ q, H0.size ≤ q → A q) (isC isR pm : List Nat) {wr : va_W} {wn : S → va_W} (hC : isC.map (fun i => ws[i]?) = wc.map some) (hnC : va_nd isC = true) (hRr : isR.map (fun i => ws[i]?) = wr.map some) (hnR : va_nd isR = true) (hdis : ∀ i ∈ isR, i ∉ isC) (hpm : ∀ u, pm.map (fun i => (wr ++ w1 u)[i]?) = (wn u).map some) (hnp : va_nd pm = true)
    (he : wc[q0]? = some (b, .inr (ci, fs))) (hn : As.length = n) (hsize : ls.size = nL) (hst : st = As.reverse ++ .ref b :: rest) (hW : (rest.map fun v => v.category).sum ≤ 8) (hdg : decode cc pc = .ok (.invokevirtual index, 3))
    (kk : ∀ (r : Int64) (u : S) (H1 : Heap) (locs1 : List Loc), post r u → va_P D vwCl (wn u) H1 → va_D A (wn u) → va_S A H0 H1 locs1 → W p l e R s m args below meth c H1 locs1 cells slots Q (F0 m (pc + 3) ls (.long r :: rest))) : W p l e R s m args below meth c H locs cells slots Q (F0 m pc ls st) := by
  subst hqC
  have hPc := hP.pm isC hC
  have hDc := hD.sub isC hnC hC
  have hF := va_free hD hS hA isC hC
  refine va_calll (va_runV (As := As) (rest := rest) ⟨hx, hb, hml, hown, hG⟩ (hM H.size) (cwV n hG (gV h1 h2 h3 h4 h5) rfl rfl rfl hd hR) ⟨fun a U g mk q => ⟨q.1, q.2.1, q.2.2.1, q.2.2.2.1.calling, q.2.2.2.2⟩, va_recv hKX.1 hPc hq he, fun U hU hW => ⟨rfl, by rw [hU], by rw [hU]; exact hPc, hKX.warm hW, hDc.weaken (fun _ _ _ _ => trivial)⟩⟩ rfl hn hsize hst (lv_room hW) hdg hc) hS (fun q _ h => hF q h) hF (fun r u t H1 locs1 ht hvm hw hB hz1 hk1 hS1 => ?_)
  obtain ⟨hP1, hD1⟩ := hB
  rw [ht] at hP1
  obtain ⟨hPj, hDj⟩ := va_join hP hD isC isR hC hRr hnR hdis hk1 hF hP1 hD1
  exact kk r u H1 locs1 hw (hPj.pm pm (hpm u)) (hDj.sub pm hnp (hpm u)) hS1
theorem cRwVV {S : Type} {own C : String} {index : Nat} {y : MethodName} {bytes : ByteArray} {maxL nL n dc ci q0 b : Nat} {ret : Option FieldType} {wc : va_W} {As fs : List Value} {post : S → Prop} {w1 : S → va_W} {q : vw_C} (h1 : Cond.methodLink own index y ∈ GW) (h2 : Cond.instanceMethod y ∈ GW) (h3 : Cond.selects C y y ∈ GW) (h4 : Cond.initialized C ∈ GW) (h5 : Cond.code y bytes maxL ret ∈ GW) (hq : vwCl[ci]? = some q) (hqC : q.1 = C)
    (hd : y.cls = C ∧ y.cls ≠ "java/lang/invoke/MethodHandle" ∧ y.cls ≠ "java/lang/invoke/VarHandle" ∧ (parseMethodDescriptor y.desc).map (fun d => d.parameters.length) = some n)
    (hx : p.tables.exec = Jvm.exec) (hb : c.code = cc) (hml : c.maxLocals = nL) (hown : s.vm.findClass own = some m.cls) (hG : ∀ w ∈ GW, w.before args s = true) (hKX : KX D cy s)
    (hM : RwV l D cy y (.code y bytes maxL ret) dc wc (.ref b :: As) post w1) (hR : dc + 1 ≤ R.frames ∧ 8 + (maxL + 11) + 38 * dc ≤ R.locals) (hc : cells ≤ R.cells ∧ slots ≤ R.slots)
    (hP : va_P D vwCl ws H) (hD : va_D A ws) (hS : va_S A H0 H locs) (hA : ∀ q, H0.size ≤ q → A q) (isC isR pm : List Nat) {wr : va_W} {wn : S → va_W} (hC : isC.map (fun i => ws[i]?) = wc.map some) (hnC : va_nd isC = true) (hRr : isR.map (fun i => ws[i]?) = wr.map some) (hnR : va_nd isR = true) (hdis : ∀ i ∈ isR, i ∉ isC) (hpm : ∀ u, pm.map (fun i => (wr ++ w1 u)[i]?) = (wn u).map some) (hnp : va_nd pm = true)
    (he : wc[q0]? = some (b, .inr (ci, fs))) (hn : As.length = n) (hsize : ls.size = nL) (hst : st = As.reverse ++ .ref b :: rest) (hW : (rest.map fun v => v.category).sum ≤ 8) (hdg : decode cc pc = .ok (.invokevirtual index, 3))
    (kk : ∀ (u : S) (H1 : Heap) (locs1 : List Loc), post u → va_P D vwCl (wn u) H1 → va_D A (wn u) → va_S A H0 H1 locs1 → W p l e R s m args below meth c H1 locs1 cells slots Q (F0 m (pc + 3) ls rest)) : W p l e R s m args below meth c H locs cells slots Q (F0 m pc ls st) := by
  subst hqC
  have hPc := hP.pm isC hC
  have hDc := hD.sub isC hnC hC
  have hF := va_free hD hS hA isC hC
  refine va_callv (va_runV (As := As) (rest := rest) ⟨hx, hb, hml, hown, hG⟩ (hM H.size) (cwV n hG (gV h1 h2 h3 h4 h5) rfl rfl rfl hd hR) ⟨fun a U g mk q => ⟨q.1, q.2.1, q.2.2.1, q.2.2.2.1.calling, q.2.2.2.2⟩, va_recv hKX.1 hPc hq he, fun U hU hW => ⟨rfl, by rw [hU], by rw [hU]; exact hPc, hKX.warm hW, hDc.weaken (fun _ _ _ _ => trivial)⟩⟩ rfl hn hsize hst (lv_room hW) hdg hc) hS (fun q _ h => hF q h) hF (fun u t H1 locs1 ht hvm hw hB hz1 hk1 hS1 => ?_)
  obtain ⟨hP1, hD1⟩ := hB
  rw [ht] at hP1
  obtain ⟨hPj, hDj⟩ := va_join hP hD isC isR hC hRr hnR hdis hk1 hF hP1 hD1
  exact kk u H1 locs1 hw (hPj.pm pm (hpm u)) (hDj.sub pm hnp (hpm u)) hS1
theorem cRwSV {S : Type} {own : String} {index : Nat} {y : MethodName} {bytes : ByteArray} {maxL nL n dc : Nat} {ret : Option FieldType} {wc : va_W} {As : List Value} {post : S → Prop} {w1 : S → va_W} (h1 : Cond.methodLink own index y ∈ GW) (h2 : Cond.static y ∈ GW) (h4 : Cond.initialized y.cls ∈ GW) (h5 : Cond.code y bytes maxL ret ∈ GW)
    (hd : y.cls ≠ "java/lang/invoke/MethodHandle" ∧ y.cls ≠ "java/lang/invoke/VarHandle" ∧ (parseMethodDescriptor y.desc).map (fun d => d.parameters.length) = some n)
    (hx : p.tables.exec = Jvm.exec) (hb : c.code = cc) (hml : c.maxLocals = nL) (hown : s.vm.findClass own = some m.cls) (hG : ∀ w ∈ GW, w.before args s = true) (hKX : KX D cy s)
    (hM : RwV l D cy y (.code y bytes maxL ret) dc wc As post w1) (hR : dc + 1 ≤ R.frames ∧ 8 + (maxL + 11) + 38 * dc ≤ R.locals) (hc : cells ≤ R.cells ∧ slots ≤ R.slots)
    (hP : va_P D vwCl ws H) (hD : va_D A ws) (hS : va_S A H0 H locs) (hA : ∀ q, H0.size ≤ q → A q) (isC isR pm : List Nat) {wr : va_W} {wn : S → va_W} (hC : isC.map (fun i => ws[i]?) = wc.map some) (hnC : va_nd isC = true) (hRr : isR.map (fun i => ws[i]?) = wr.map some) (hnR : va_nd isR = true) (hdis : ∀ i ∈ isR, i ∉ isC) (hpm : ∀ u, pm.map (fun i => (wr ++ w1 u)[i]?) = (wn u).map some) (hnp : va_nd pm = true)
    (hn : As.length = n) (hsize : ls.size = nL) (hst : st = As.reverse ++ rest) (hW : (rest.map fun v => v.category).sum ≤ 8) (hdg : decode cc pc = .ok (.invokestatic index, 3))
    (kk : ∀ (u : S) (H1 : Heap) (locs1 : List Loc), post u → va_P D vwCl (wn u) H1 → va_D A (wn u) → va_S A H0 H1 locs1 → W p l e R s m args below meth c H1 locs1 cells slots Q (F0 m (pc + 3) ls rest)) : W p l e R s m args below meth c H locs cells slots Q (F0 m pc ls st) := by
  have hPc := hP.pm isC hC
  have hDc := hD.sub isC hnC hC
  have hF := va_free hD hS hA isC hC
  refine va_callv (va_runS (As := As) (rest := rest) ⟨hx, hb, hml, hown, hG⟩ (hM H.size) (va_cwS n hG (gS h1 h2 h4 h5) rfl rfl rfl hd hR) ⟨fun a U g mk q => ⟨q.1, q.2.1, q.2.2.1, q.2.2.2.1.calling, q.2.2.2.2⟩, fun U hU hW => ⟨rfl, by rw [hU], by rw [hU]; exact hPc, hKX.warm hW, hDc.weaken (fun _ _ _ _ => trivial)⟩⟩ rfl hn hsize hst (lv_room hW) hdg hc) hS (fun q _ h => hF q h) hF (fun u t H1 locs1 ht hvm hw hB hz1 hk1 hS1 => ?_)
  obtain ⟨hP1, hD1⟩ := hB
  rw [ht] at hP1
  obtain ⟨hPj, hDj⟩ := va_join hP hD isC isR hC hRr hnR hdis hk1 hF hP1 hD1
  exact kk u H1 locs1 hw (hPj.pm pm (hpm u)) (hDj.sub pm hnp (hpm u)) hS1
theorem iald_n (hx : p.tables.exec = Jvm.exec) (hb : c.code = cc) (hKX : KX D cy s) (hP : va_P D vwCl ws H) (q0 : Nat) {n k : Nat} {f : Nat → Int32} {i : Int32} (ha : ws[q0]? = some (a, .inl (cy 0, n, .inl f))) (hi : i = nI k) (hk : k < n) (hn : n < 2 ^ 31) (hdg : decode cc pc = .ok (.iaload, 1))
    (kk : W p l e R s m args below meth c H locs cells slots Q (F0 m (pc + 1) ls (.int (f k) :: rest))) : W p l e R s m args below meth c H locs cells slots Q (F0 m pc ls (.int i :: .ref a :: rest)) := by
  subst hi
  refine va_iald hx hb hKX.1 hP q0 0 ha rfl (vp_in_nI hk hn) hdg ?_
  rw [nI_clamp (Nat.lt_trans hk hn)]
  exact kk
theorem iast_n (hx : p.tables.exec = Jvm.exec) (hb : c.code = cc) (hKX : KX D cy s) (hP : va_P D vwCl ws H) (hD : va_D A ws) (hS : va_S A H0 H locs) (q0 : Nat) {n k : Nat} {f : Nat → Int32} {i x : Int32} (ha : ws[q0]? = some (a, .inl (cy 0, n, .inl f))) (hi : i = nI k) (hk : k < n) (hn : n < 2 ^ 31) (hdg : decode cc pc = .ok (.iastore, 1))
    (kk : ∀ (H1 : Heap) (locs1 : List Loc), va_P D vwCl (ws.set q0 (a, .inl (cy 0, n, .inl (upd f k x)))) H1 → va_D A (ws.set q0 (a, .inl (cy 0, n, .inl (upd f k x)))) → va_S A H0 H1 locs1 → W p l e R s m args below meth c H1 locs1 cells slots Q (F0 m (pc + 1) ls rest)) : W p l e R s m args below meth c H locs cells slots Q (F0 m pc ls (.int x :: .int i :: .ref a :: rest)) := by
  subst hi
  refine va_iast hx hb hKX.1 hP hD hS q0 0 ha rfl (vp_in_nI hk hn) hdg (fun H1 locs1 h1 h2 h3 => ?_)
  rw [nI_clamp (Nat.lt_trans hk hn)] at h1 h2
  exact kk H1 locs1 h1 h2 h3
theorem lald_n (hx : p.tables.exec = Jvm.exec) (hb : c.code = cc) (hKX : KX D cy s) (hP : va_P D vwCl ws H) (q0 : Nat) {n k : Nat} {f : Nat → Int64} {i : Int32} (ha : ws[q0]? = some (a, .inl (cy 2, n, .inr (.inl f)))) (hi : i = nI k) (hk : k < n) (hn : n < 2 ^ 31) (hdg : decode cc pc = .ok (.laload, 1))
    (kk : W p l e R s m args below meth c H locs cells slots Q (F0 m (pc + 1) ls (.long (f k) :: rest))) : W p l e R s m args below meth c H locs cells slots Q (F0 m pc ls (.int i :: .ref a :: rest)) := by
  subst hi
  refine va_lald hx hb hKX.1 hP q0 2 ha rfl (vp_in_nI hk hn) hdg ?_
  rw [nI_clamp (Nat.lt_trans hk hn)]
  exact kk
theorem last_n (hx : p.tables.exec = Jvm.exec) (hb : c.code = cc) (hKX : KX D cy s) (hP : va_P D vwCl ws H) (hD : va_D A ws) (hS : va_S A H0 H locs) (q0 : Nat) {n k : Nat} {f : Nat → Int64} {i : Int32} {x : Int64} (ha : ws[q0]? = some (a, .inl (cy 2, n, .inr (.inl f)))) (hi : i = nI k) (hk : k < n) (hn : n < 2 ^ 31) (hdg : decode cc pc = .ok (.lastore, 1))
    (kk : ∀ (H1 : Heap) (locs1 : List Loc), va_P D vwCl (ws.set q0 (a, .inl (cy 2, n, .inr (.inl (vp_updL f k x))))) H1 → va_D A (ws.set q0 (a, .inl (cy 2, n, .inr (.inl (vp_updL f k x))))) → va_S A H0 H1 locs1 → W p l e R s m args below meth c H1 locs1 cells slots Q (F0 m (pc + 1) ls rest)) : W p l e R s m args below meth c H locs cells slots Q (F0 m pc ls (.long x :: .int i :: .ref a :: rest)) := by
  subst hi
  refine va_last hx hb hKX.1 hP hD hS q0 2 ha rfl (vp_in_nI hk hn) hdg (fun H1 locs1 h1 h2 h3 => ?_)
  rw [nI_clamp (Nat.lt_trans hk hn)] at h1 h2
  exact kk H1 locs1 h1 h2 h3
theorem bald_n (hx : p.tables.exec = Jvm.exec) (hb : c.code = cc) (hKX : KX D cy s) (hP : va_P D vwCl ws H) (q0 : Nat) {n k : Nat} {f : Nat → Int32} {i : Int32} (ha : ws[q0]? = some (a, .inl (cy 1, n, .inl f))) (hi : i = nI k) (hk : k < n) (hn : n < 2 ^ 31) (hdg : decode cc pc = .ok (.baload, 1))
    (kk : W p l e R s m args below meth c H locs cells slots Q (F0 m (pc + 1) ls (.int (f k) :: rest))) : W p l e R s m args below meth c H locs cells slots Q (F0 m pc ls (.int i :: .ref a :: rest)) := by
  subst hi
  refine va_bald hx hb hKX.1 hP q0 1 ha rfl (vp_in_nI hk hn) hdg ?_
  rw [nI_clamp (Nat.lt_trans hk hn)]
  exact kk
end CB
/-- lemmas that turn sums, products of written indices into nI -/
theorem aN {x y : Int32} {a b : Nat} (hx : x = nI a) (hy : y = nI b) : x + y = nI (a + b) := by rw [hx, hy, nI_add]
theorem mN {x y : Int32} {a b : Nat} (hx : x = nI a) (hy : y = nI b) : x * y = nI (a * b) := by rw [hx, hy, pk_mul]
theorem sN {x y : Int32} {a b : Nat} (hx : x = nI a) (hy : y = nI b) (h : b ≤ a) : x - y = nI (a - b) := by rw [hx, hy, pk_sub h]
/-- n turns of a body, the k-th with k -/
def itr {σ : Type} (b : Nat → σ → σ) : Nat → σ → σ
  | 0, s => s
  | k + 1, s => b k (itr b k s)
theorem itr_succ {σ : Type} (b : Nat → σ → σ) (k : Nat) (s : σ) : itr b (k + 1) s = b k (itr b k s) := rfl
/-- the first of the turns k, k + 1 .. (d of them) that answers -/
def srch {α : Type} (b : Nat → Option α) : Nat → Nat → Option α
  | 0, _ => none
  | d + 1, k => match b k with
    | some r => some r
    | none => srch b d (k + 1)
