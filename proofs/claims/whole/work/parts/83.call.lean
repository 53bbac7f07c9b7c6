/-! a call at a world that holds more than the callee asks for: what it answers, what world it leaves -/
def LCI (l : Launch) (D : va_G) (cy : Nat → ClassId) (y : MethodName) (cw : Cond) (W : va_W) (av : List Value) (ρ : Int32) (W' : va_W) : Prop :=
  (∃ (d : Nat) (S : Type) (wc wr : va_W) (post : Int32 → S → Prop) (w1 : S → va_W), d ≤ 8 ∧ RwI l D cy y cw d wc av post w1 ∧ W.Perm (wc ++ wr) ∧ ∀ r u, post r u → r = ρ ∧ (w1 u ++ wr).Perm W') ∨
  ∃ (d : Nat) (wc wr : va_W), d ≤ 8 ∧ RoI l D cy y cw d wc av ρ ∧ W.Perm (wc ++ wr) ∧ W' = W
def LCJ (l : Launch) (D : va_G) (cy : Nat → ClassId) (y : MethodName) (cw : Cond) (W : va_W) (av : List Value) (ρ : Int64) (W' : va_W) : Prop :=
  (∃ (d : Nat) (S : Type) (wc wr : va_W) (post : Int64 → S → Prop) (w1 : S → va_W), d ≤ 8 ∧ RwL l D cy y cw d wc av post w1 ∧ W.Perm (wc ++ wr) ∧ ∀ r u, post r u → r = ρ ∧ (w1 u ++ wr).Perm W') ∨
  ∃ (d : Nat) (wc wr : va_W), d ≤ 8 ∧ RoL l D cy y cw d wc av ρ ∧ W.Perm (wc ++ wr) ∧ W' = W
theorem va_D.right {A : Nat → Prop} {w1 w2 : va_W} (h : va_D A (w1 ++ w2)) : va_D A w2 := (h.perm (List.perm_append_comm (l₁ := w1) (l₂ := w2))).left
section LAWCALL
variable {p : Program} {l : Launch} {e : Env} {R : Room} {s : State} {m : MethodId} {args : Array Value} {below : List Frame} {meth : Method} {c : Code} {H : Heap} {locs : List Loc} {cells slots : Nat} {Q : State → Prop}
variable {cc : ByteArray} {pc : Nat} {ls : Array Slot} {rest st : List Value} {D : va_G} {cy : Nat → ClassId} {A : Nat → Prop} {H0 : Heap}
theorem lawI {own C : String} {index : Nat} {y : MethodName} {bytes : ByteArray} {maxL nL n ci b : Nat} {ret : Option FieldType} {W1 W2 : va_W} {As fs : List Value} {ρ : Int32} {q : vw_C} (h1 : Cond.methodLink own index y ∈ GW) (h2 : Cond.instanceMethod y ∈ GW) (h3 : Cond.selects C y y ∈ GW) (h4 : Cond.initialized C ∈ GW) (h5 : Cond.code y bytes maxL ret ∈ GW) (hq : vwCl[ci]? = some q) (hqC : q.1 = C)
    (hd : y.cls = C ∧ y.cls ≠ "java/lang/invoke/MethodHandle" ∧ y.cls ≠ "java/lang/invoke/VarHandle" ∧ (parseMethodDescriptor y.desc).map (fun d => d.parameters.length) = some n)
    (hx : p.tables.exec = Jvm.exec) (hb : c.code = cc) (hml : c.maxLocals = nL) (hown : s.vm.findClass own = some m.cls) (hG : ∀ w ∈ GW, w.before args s = true) (hKX : KX D cy s)
    (hM : LCI l D cy y (.code y bytes maxL ret) W1 (.ref b :: As) ρ W2) (hR : 9 ≤ R.frames ∧ 8 + (maxL + 11) + 38 * 8 ≤ R.locals) (hc : cells ≤ R.cells ∧ slots ≤ R.slots)
    (hP : va_P D vwCl W1 H) (hD : va_D A W1) (hS : va_S A H0 H locs) (hA : ∀ q, H0.size ≤ q → A q)
    (he : (b, .inr (ci, fs)) ∈ W1) (hn : As.length = n) (hsize : ls.size = nL) (hst : st = As.reverse ++ .ref b :: rest) (hW : (rest.map fun v => v.category).sum ≤ 8) (hdg : decode cc pc = .ok (.invokevirtual index, 3))
    (kk : ∀ (H1 : Heap) (locs1 : List Loc), va_P D vwCl W2 H1 → va_D A W2 → va_S A H0 H1 locs1 → W p l e R s m args below meth c H1 locs1 cells slots Q (F0 m (pc + 3) ls (.int ρ :: rest))) : W p l e R s m args below meth c H locs cells slots Q (F0 m pc ls st) := by
  subst hqC
  obtain ⟨q0, he⟩ := List.mem_iff_getElem?.mp he
  rcases hM with ⟨d, S, wc, wr, post, w1, hd8, hM, hp, hpost⟩ | ⟨d, wc, wr, hd8, hM, hp, rfl⟩
  · have hPc := (hP.perm hp).left
    have hDc := (hD.perm hp).left
    have hF := wfree hD hS hA hp
    refine va_calli (va_runV (As := As) (rest := rest) ⟨hx, hb, hml, hown, hG⟩ (hM H.size) (cwV n hG (gV h1 h2 h3 h4 h5) rfl rfl rfl hd ⟨by show d + 1 ≤ R.frames; omega, by show 8 + (maxL + 11) + 38 * d ≤ R.locals; omega⟩) ⟨fun a U g mk q => ⟨q.1, q.2.1, q.2.2.1, q.2.2.2.1.calling, q.2.2.2.2⟩, va_recv hKX.1 hP hq he, fun U hU hW => ⟨rfl, by rw [hU], by rw [hU]; exact hPc, hKX.warm hW, hDc.weaken (fun _ _ _ _ => trivial)⟩⟩ rfl hn hsize hst (lv_room hW) hdg hc) hS (fun q _ h => hF q h) hF (fun r u t H1 locs1 ht hvm hw hB hz1 hk1 hS1 => ?_)
    obtain ⟨hP1, hD1⟩ := hB
    rw [ht] at hP1
    obtain ⟨rfl, hp2⟩ := hpost r u hw
    obtain ⟨hPj, hDj⟩ := wjoin hP hD hp hp2 hk1 hF hP1 hD1
    exact kk H1 locs1 hPj hDj hS1
  · have hPc := (hP.perm hp).left
    exact roi_k (va_runV (As := As) (rest := rest) ⟨hx, hb, hml, hown, hG⟩ hM (cwV n hG (gV h1 h2 h3 h4 h5) rfl rfl rfl hd ⟨by show d + 1 ≤ R.frames; omega, by show 8 + (maxL + 11) + 38 * d ≤ R.locals; omega⟩) ⟨fun a U g mk q => ⟨q.1, q.2.1, q.2.2.calling⟩, va_recv hKX.1 hP hq he, fun U hU hW => ⟨rfl, by rw [hU]; exact hPc, hKX.warm hW⟩⟩ rfl hn hsize hst (lv_room hW) hdg hc) (kk H locs hP hD hS)
theorem lawJ {own C : String} {index : Nat} {y : MethodName} {bytes : ByteArray} {maxL nL n ci b : Nat} {ret : Option FieldType} {W1 W2 : va_W} {As fs : List Value} {ρ : Int64} {q : vw_C} (h1 : Cond.methodLink own index y ∈ GW) (h2 : Cond.instanceMethod y ∈ GW) (h3 : Cond.selects C y y ∈ GW) (h4 : Cond.initialized C ∈ GW) (h5 : Cond.code y bytes maxL ret ∈ GW) (hq : vwCl[ci]? = some q) (hqC : q.1 = C)
    (hd : y.cls = C ∧ y.cls ≠ "java/lang/invoke/MethodHandle" ∧ y.cls ≠ "java/lang/invoke/VarHandle" ∧ (parseMethodDescriptor y.desc).map (fun d => d.parameters.length) = some n)
    (hx : p.tables.exec = Jvm.exec) (hb : c.code = cc) (hml : c.maxLocals = nL) (hown : s.vm.findClass own = some m.cls) (hG : ∀ w ∈ GW, w.before args s = true) (hKX : KX D cy s)
    (hM : LCJ l D cy y (.code y bytes maxL ret) W1 (.ref b :: As) ρ W2) (hR : 9 ≤ R.frames ∧ 8 + (maxL + 11) + 38 * 8 ≤ R.locals) (hc : cells ≤ R.cells ∧ slots ≤ R.slots)
    (hP : va_P D vwCl W1 H) (hD : va_D A W1) (hS : va_S A H0 H locs) (hA : ∀ q, H0.size ≤ q → A q)
    (he : (b, .inr (ci, fs)) ∈ W1) (hn : As.length = n) (hsize : ls.size = nL) (hst : st = As.reverse ++ .ref b :: rest) (hW : (rest.map fun v => v.category).sum ≤ 8) (hdg : decode cc pc = .ok (.invokevirtual index, 3))
    (kk : ∀ (H1 : Heap) (locs1 : List Loc), va_P D vwCl W2 H1 → va_D A W2 → va_S A H0 H1 locs1 → W p l e R s m args below meth c H1 locs1 cells slots Q (F0 m (pc + 3) ls (.long ρ :: rest))) : W p l e R s m args below meth c H locs cells slots Q (F0 m pc ls st) := by
  subst hqC
  obtain ⟨q0, he⟩ := List.mem_iff_getElem?.mp he
  rcases hM with ⟨d, S, wc, wr, post, w1, hd8, hM, hp, hpost⟩ | ⟨d, wc, wr, hd8, hM, hp, rfl⟩
  · have hPc := (hP.perm hp).left
    have hDc := (hD.perm hp).left
    have hF := wfree hD hS hA hp
    refine va_calll (va_runV (As := As) (rest := rest) ⟨hx, hb, hml, hown, hG⟩ (hM H.size) (cwV n hG (gV h1 h2 h3 h4 h5) rfl rfl rfl hd ⟨by show d + 1 ≤ R.frames; omega, by show 8 + (maxL + 11) + 38 * d ≤ R.locals; omega⟩) ⟨fun a U g mk q => ⟨q.1, q.2.1, q.2.2.1, q.2.2.2.1.calling, q.2.2.2.2⟩, va_recv hKX.1 hP hq he, fun U hU hW => ⟨rfl, by rw [hU], by rw [hU]; exact hPc, hKX.warm hW, hDc.weaken (fun _ _ _ _ => trivial)⟩⟩ rfl hn hsize hst (lv_room hW) hdg hc) hS (fun q _ h => hF q h) hF (fun r u t H1 locs1 ht hvm hw hB hz1 hk1 hS1 => ?_)
    obtain ⟨hP1, hD1⟩ := hB
    rw [ht] at hP1
    obtain ⟨rfl, hp2⟩ := hpost r u hw
    obtain ⟨hPj, hDj⟩ := wjoin hP hD hp hp2 hk1 hF hP1 hD1
    exact kk H1 locs1 hPj hDj hS1
  · have hPc := (hP.perm hp).left
    exact rol_k (va_runV (As := As) (rest := rest) ⟨hx, hb, hml, hown, hG⟩ hM (cwV n hG (gV h1 h2 h3 h4 h5) rfl rfl rfl hd ⟨by show d + 1 ≤ R.frames; omega, by show 8 + (maxL + 11) + 38 * d ≤ R.locals; omega⟩) ⟨fun a U g mk q => ⟨q.1, q.2.1, q.2.2.calling⟩, va_recv hKX.1 hP hq he, fun U hU hW => ⟨rfl, by rw [hU]; exact hPc, hKX.warm hW⟩⟩ rfl hn hsize hst (lv_room hW) hdg hc) (kk H locs hP hD hS)
end LAWCALL
/-! worlds by blocks: seventeen that stay in their places, six tapes -/
def WW (Fx : List va_W) (T : Nat → va_W) : va_W := Fx.flatten ++ (List.range 6).flatMap T
def pk_b (Fx : List va_W) (ks : List Nat) : va_W := (ks.map (fun i => Fx.getD i [])).flatten
theorem map_getD (Fx : List va_W) : (List.range Fx.length).map (fun i => Fx.getD i []) = Fx := by
  refine List.ext_getElem (by simp) (fun i h1 h2 => ?_)
  rw [List.getElem_map, List.getElem_range, List.getD_eq_getElem?_getD, List.getElem?_eq_getElem h2]
  rfl
theorem flat_perm {Fx : List va_W} {N : Nat} (hl : Fx.length = N) {is : List Nat} (h : is.Perm (List.range N)) : (pk_b Fx is).Perm Fx.flatten := by
  have h1 : (is.map (fun i => Fx.getD i [])).Perm ((List.range N).map (fun i => Fx.getD i [])) := h.map _
  rw [← hl, map_getD] at h1
  exact h1.flatten
theorem pk_app (Fx : List va_W) (ks js : List Nat) : pk_b Fx (ks ++ js) = pk_b Fx ks ++ pk_b Fx js := by
  unfold pk_b
  rw [List.map_append, List.flatten_append]
theorem ww_perm {Fx : List va_W} {T : Nat → va_W} {ks js tk tj : List Nat} (hl : Fx.length = 17) (hk : (ks ++ js).Perm (List.range 17)) (ht : (tk ++ tj).Perm (List.range 6)) : (WW Fx T).Perm ((pk_b Fx ks ++ tk.flatMap T) ++ (pk_b Fx js ++ tj.flatMap T)) := by
  have h1 := (flat_perm hl hk).symm
  rw [pk_app] at h1
  have h2 : ((List.range 6).flatMap T).Perm (tk.flatMap T ++ tj.flatMap T) := by
    rw [← List.flatMap_append]
    exact (ht.symm).flatMap_right T
  have h3 : (WW Fx T).Perm ((pk_b Fx ks ++ pk_b Fx js) ++ (tk.flatMap T ++ tj.flatMap T)) := List.Perm.append h1 h2
  refine h3.trans ?_
  rw [List.append_assoc, List.append_assoc]
  refine List.Perm.append_left _ ?_
  rw [← List.append_assoc, ← List.append_assoc]
  exact List.Perm.append_right _ List.perm_append_comm
theorem flatMap_eq {T T' : Nat → va_W} : ∀ {tj : List Nat}, (∀ k ∈ tj, T k = T' k) → tj.flatMap T = tj.flatMap T'
  | [], _ => rfl
  | k :: tj, h => by
    rw [List.flatMap_cons, List.flatMap_cons, h k List.mem_cons_self, flatMap_eq (fun j hj => h j (List.mem_cons_of_mem _ hj))]
section CIMK
variable {l : Launch} {D : va_G} {cy : Nat → ClassId} {y : MethodName} {cw : Cond} {d : Nat} {wc : va_W} {av : List Value}
theorem ci_mk {S : Type} {x : Int32 × S} {w1 : S → va_W} (h : RwI (S := S) l D cy y cw d wc av (fun rr u => (rr, u) = x) w1) {Fx Fx' : List va_W} {T T' : Nat → va_W} (ks js tk tj : List Nat) (hd : d ≤ 8) (hl : Fx.length = 17) (hl' : Fx'.length = 17) (hk : (ks ++ js).Perm (List.range 17)) (ht : (tk ++ tj).Perm (List.range 6)) (hw : wc = pk_b Fx ks ++ tk.flatMap T) (hw1 : w1 x.2 = pk_b Fx' ks ++ tk.flatMap T') (hr : js.map (fun i => Fx.getD i []) = js.map (fun i => Fx'.getD i [])) (hrt : ∀ k ∈ tj, T k = T' k) {ρ : Int32} (hρ : x.1 = ρ) : LCI l D cy y cw (WW Fx T) av ρ (WW Fx' T') := by
  have hpj : pk_b Fx js = pk_b Fx' js := congrArg List.flatten hr
  refine Or.inl ⟨d, S, wc, pk_b Fx js ++ tj.flatMap T, _, w1, hd, h, by rw [hw]; exact ww_perm hl hk ht, fun r u e => ?_⟩
  subst e
  refine ⟨hρ, ?_⟩
  dsimp only at hw1
  rw [hw1, hpj, flatMap_eq hrt]
  exact (ww_perm hl' hk ht).symm
theorem cj_mk {S : Type} {x : Int64 × S} {w1 : S → va_W} (h : RwL (S := S) l D cy y cw d wc av (fun rr u => (rr, u) = x) w1) {Fx Fx' : List va_W} {T T' : Nat → va_W} (ks js tk tj : List Nat) (hd : d ≤ 8) (hl : Fx.length = 17) (hl' : Fx'.length = 17) (hk : (ks ++ js).Perm (List.range 17)) (ht : (tk ++ tj).Perm (List.range 6)) (hw : wc = pk_b Fx ks ++ tk.flatMap T) (hw1 : w1 x.2 = pk_b Fx' ks ++ tk.flatMap T') (hr : js.map (fun i => Fx.getD i []) = js.map (fun i => Fx'.getD i [])) (hrt : ∀ k ∈ tj, T k = T' k) {ρ : Int64} (hρ : x.1 = ρ) : LCJ l D cy y cw (WW Fx T) av ρ (WW Fx' T') := by
  have hpj : pk_b Fx js = pk_b Fx' js := congrArg List.flatten hr
  refine Or.inl ⟨d, S, wc, pk_b Fx js ++ tj.flatMap T, _, w1, hd, h, by rw [hw]; exact ww_perm hl hk ht, fun r u e => ?_⟩
  subst e
  refine ⟨hρ, ?_⟩
  dsimp only at hw1
  rw [hw1, hpj, flatMap_eq hrt]
  exact (ww_perm hl' hk ht).symm
theorem ci_ro {ρ : Int32} (h : RoI l D cy y cw d wc av ρ) {Fx : List va_W} {T : Nat → va_W} (ks js tk tj : List Nat) (hd : d ≤ 8) (hl : Fx.length = 17) (hk : (ks ++ js).Perm (List.range 17)) (ht : (tk ++ tj).Perm (List.range 6)) (hw : wc = pk_b Fx ks ++ tk.flatMap T) : LCI l D cy y cw (WW Fx T) av ρ (WW Fx T) :=
  Or.inr ⟨d, wc, pk_b Fx js ++ tj.flatMap T, hd, h, by rw [hw]; exact ww_perm hl hk ht, rfl⟩
theorem cj_ro {ρ : Int64} (h : RoL l D cy y cw d wc av ρ) {Fx : List va_W} {T : Nat → va_W} (ks js tk tj : List Nat) (hd : d ≤ 8) (hl : Fx.length = 17) (hk : (ks ++ js).Perm (List.range 17)) (ht : (tk ++ tj).Perm (List.range 6)) (hw : wc = pk_b Fx ks ++ tk.flatMap T) : LCJ l D cy y cw (WW Fx T) av ρ (WW Fx T) :=
  Or.inr ⟨d, wc, pk_b Fx js ++ tj.flatMap T, hd, h, by rw [hw]; exact ww_perm hl hk ht, rfl⟩
end CIMK
theorem ww_mem {Fx : List va_W} {T : Nat → va_W} {b : va_W} {q : Nat × va_E} (hb : b ∈ Fx) (hq : q ∈ b) : q ∈ WW Fx T := List.mem_append_left _ (List.mem_flatten.mpr ⟨b, hb, hq⟩)
