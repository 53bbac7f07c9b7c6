/-! worlds, as far as their order does not matter -/
theorem wP_iff {D : va_G} {cl : List vw_C} {ws : va_W} {H : Heap} : va_P D cl ws H ↔ ∀ q ∈ ws, va_at D cl q H := by
  constructor
  · intro h q hq
    obtain ⟨k, hk⟩ := List.mem_iff_getElem?.mp hq
    exact h k q hk
  · intro h k q hk
    exact h q (List.mem_of_getElem? hk)
theorem wD_iff {A : Nat → Prop} {ws : va_W} : va_D A ws ↔ ws.Pairwise (fun a b => a.1 ≠ b.1) ∧ ∀ q ∈ ws, A q.1 := by
  constructor
  · intro h
    refine ⟨List.pairwise_iff_getElem.mpr (fun i j hi hj hij e => ?_), fun q hq => ?_⟩
    · have := h.1 i j ws[i] ws[j] (List.getElem?_eq_getElem hi) (List.getElem?_eq_getElem hj) e
      omega
    · obtain ⟨k, hk⟩ := List.mem_iff_getElem?.mp hq
      exact h.2 k q hk
  · intro h
    refine ⟨fun i j p q hi hj e => ?_, fun k q hk => h.2 q (List.mem_of_getElem? hk)⟩
    obtain ⟨hi', rfl⟩ := List.getElem?_eq_some_iff.mp hi
    obtain ⟨hj', rfl⟩ := List.getElem?_eq_some_iff.mp hj
    rcases Nat.lt_trichotomy i j with c | c | c
    · exact absurd e (List.pairwise_iff_getElem.mp h.1 i j hi' hj' c)
    · exact c
    · exact absurd e.symm (List.pairwise_iff_getElem.mp h.1 j i hj' hi' c)
theorem va_P.perm {D : va_G} {cl : List vw_C} {ws ws' : va_W} {H : Heap} (h : va_P D cl ws H) (p : ws.Perm ws') : va_P D cl ws' H := wP_iff.mpr (fun q hq => wP_iff.mp h q (p.mem_iff.mpr hq))
theorem va_D.perm {A : Nat → Prop} {ws ws' : va_W} (h : va_D A ws) (p : ws.Perm ws') : va_D A ws' := wD_iff.mpr ⟨(p.pairwise_iff (fun h => h.symm)).mp (wD_iff.mp h).1, fun q hq => (wD_iff.mp h).2 q (p.mem_iff.mpr hq)⟩
theorem va_P.left {D : va_G} {cl : List vw_C} {w1 w2 : va_W} {H : Heap} (h : va_P D cl (w1 ++ w2) H) : va_P D cl w1 H := wP_iff.mpr (fun q hq => wP_iff.mp h q (List.mem_append_left _ hq))
theorem va_D.left {A : Nat → Prop} {w1 w2 : va_W} (h : va_D A (w1 ++ w2)) : va_D A w1 := wD_iff.mpr ⟨(List.pairwise_append.mp (wD_iff.mp h).1).1, fun q hq => (wD_iff.mp h).2 q (List.mem_append_left _ hq)⟩
theorem wfree {A0 : Nat → Prop} {ws wc wr : va_W} {H0 H : Heap} {locs : List Loc} (hD : va_D A0 ws) (hS : va_S A0 H0 H locs) (hA : ∀ q, H0.size ≤ q → A0 q) (hp : ws.Perm (wc ++ wr)) : ∀ q, va_A wc H.size q → A0 q := by
  intro q h
  rcases h with ⟨k, e, h⟩ | h
  · exact (wD_iff.mp (hD.perm hp)).2 (q, e) (List.mem_append_left _ (List.mem_of_getElem? h))
  · exact hA q (Nat.le_trans hS.1 h)
theorem wjoin {A0 : Nat → Prop} {D : va_G} {cl : List vw_C} {ws wc wr w1 wn : va_W} {H H1 : Heap} (hP : va_P D cl ws H) (hD : va_D A0 ws) (hp : ws.Perm (wc ++ wr)) (hp' : (w1 ++ wr).Perm wn) (hk : ∀ q : Nat, q < H.size → ¬ va_A wc H.size q → H1[q]? = H[q]?) (hF : ∀ q, va_A wc H.size q → A0 q) (hP1 : va_P D cl w1 H1) (hD1 : va_D (va_A wc H.size) w1) : va_P D cl wn H1 ∧ va_D A0 wn := by
  have hP2 := wP_iff.mp (hP.perm hp)
  have hD2 := wD_iff.mp (hD.perm hp)
  have hD3 := wD_iff.mp hD1
  have apart : ∀ q ∈ wr, q.1 < H.size ∧ ¬ va_A wc H.size q.1 := by
    intro q hq
    have hl := (hP2 q (List.mem_append_right _ hq)).lt
    refine ⟨hl, fun h => ?_⟩
    rcases h with ⟨k, e, h⟩ | h
    · exact (List.pairwise_append.mp hD2.1).2.2 (q.1, e) (List.mem_of_getElem? h) q hq rfl
    · omega
  refine ⟨va_P.perm (wP_iff.mpr (fun q hq => ?_)) hp', va_D.perm (wD_iff.mpr ⟨List.pairwise_append.mpr ⟨hD3.1, (List.pairwise_append.mp hD2.1).2.1, fun a ha b hb e => ?_⟩, fun q hq => ?_⟩) hp'⟩
  · rcases List.mem_append.mp hq with h | h
    · exact wP_iff.mp hP1 q h
    · obtain ⟨g1, g2⟩ := apart q h
      exact (hP2 q (List.mem_append_right _ h)).kept (hk q.1 g1 g2)
  · exact (apart b hb).2 (by rw [← e]; exact hD3.2 a ha)
  · rcases List.mem_append.mp hq with h | h
    · exact hF q.1 (hD3.2 q h)
    · exact hD2.2 q (List.mem_append_right _ h)
/-! constructors: what one answers is the addresses of what it made -/
def MkV {S : Type} (l : Launch) (D : va_G) (cy : Nat → ClassId) (E : State → Prop) (y : MethodName) (cw : Cond) (d k n : Nat) (w0 : va_W) (av : List Value) (post : S → Prop) (w1 : S → va_W) : Prop := ∀ sz : Nat, Met l y (cw :: GW) (rmC d k n) (va_Pc av (fun U => U.heap.size = sz ∧ va_P D vwCl w0 U.heap ∧ KX D cy U ∧ E U ∧ va_D (fun _ => True) w0)) (va_Qv post (fun u t => va_P D vwCl (w1 u) t.heap ∧ va_D (va_A w0 sz) (w1 u)) (va_A w0 sz)) k n (va_A w0 sz)
def EMov (E : State → Prop) : Prop := ∀ u U : State, u.vm.Alike U.vm → E u → E U
theorem emov_t : EMov (fun _ => True) := fun _ _ _ _ => trivial
theorem emov_o : EMov (va_AO "ClaimLadder$Tape") := fun _ _ h q => va_AO.moved h q
def adr (l : List Nat) : Nat → Nat := fun i => l.getD i 0
section MK
variable {p : Program} {l : Launch} {e : Env} {R : Room} {s : State} {m : MethodId} {args : Array Value} {below : List Frame} {meth : Method} {c : Code} {H : Heap} {locs : List Loc} {cells slots : Nat} {Q : State → Prop}
variable {cc : ByteArray} {pc : Nat} {ls : Array Slot} {rest st : List Value} {D : va_G} {cy : Nat → ClassId} {A : Nat → Prop} {a : Nat} {ws : va_W} {H0 : Heap}
theorem cMkL {S : Type} {E : State → Prop} {own : String} {index : Nat} {y : MethodName} {bytes : ByteArray} {maxL nL n dc b k ns : Nat} {wc wr : va_W} {As : List Value} {post : S → Prop} {w1 : S → va_W} (h1 : Cond.methodLink own index y ∈ GW) (h2 : Cond.instanceMethod y ∈ GW) (h4 : Cond.initialized y.cls ∈ GW) (h5 : Cond.code y bytes maxL none ∈ GW)
    (hd : y.cls ≠ "java/lang/invoke/MethodHandle" ∧ y.cls ≠ "java/lang/invoke/VarHandle" ∧ (parseMethodDescriptor y.desc).map (fun d => d.parameters.length) = some n) (hy1 : y.name = "<init>")
    (hx : p.tables.exec = Jvm.exec) (hb : c.code = cc) (hml : c.maxLocals = nL) (hown : s.vm.findClass own = some m.cls) (hG : ∀ w ∈ GW, w.before args s = true) (hKX : KX D cy s) (hE : E s) (hEm : EMov E)
    (hM : MkV l D cy E y (.code y bytes maxL none) dc k ns wc (.ref b :: As) post w1) (hR : dc + 1 ≤ R.frames ∧ 8 + (maxL + 11) + 38 * dc ≤ R.locals) (hc : cells + k ≤ R.cells ∧ slots + ns ≤ R.slots)
    (hP : va_P D vwCl (wr ++ wc) H) (hD : va_D A (wr ++ wc)) (hS : va_S A H0 H locs) (hA : ∀ q, H0.size ≤ q → A q)
    (hn : As.length = n) (hsize : ls.size = nL) (hst : st = As.reverse ++ .ref b :: rest) (hW : (rest.map fun v => v.category).sum ≤ 8) (hdg : decode cc pc = .ok (.invokespecial index, 3)) {k2 n2 : Nat} (hk2 : cells + k ≤ k2) (hn2 : slots + ns ≤ n2)
    (kk : ∀ (u : S) (H1 : Heap) (locs1 : List Loc), post u → va_P D vwCl (wr ++ w1 u) H1 → va_D A (wr ++ w1 u) → va_S A H0 H1 locs1 → W p l e R s m args below meth c H1 locs1 k2 n2 Q (F0 m (pc + 3) ls rest)) : W p l e R s m args below meth c H locs cells slots Q (F0 m pc ls st) := by
  have hp : (wr ++ wc).Perm (wc ++ wr) := List.perm_append_comm
  have hPc := (hP.perm hp).left
  have hDc := (hD.perm hp).left
  have hF := wfree hD hS hA hp
  refine va_callv (va_runI (As := As) (rest := rest) ⟨hx, hb, hml, hown, hG⟩ (hM H.size) (cwI n hG (gC h5) rfl rfl rfl (hG _ h4) (hG _ h1) (hG _ h2) hy1 hd hR) ⟨fun a U g mk q => ⟨q.1, q.2.1, q.2.2.1, q.2.2.2.1.calling, hEm U _ (Vm.Alike.refl U.vm) q.2.2.2.2.1, q.2.2.2.2.2⟩, fun U hU hW => ⟨rfl, by rw [hU], by rw [hU]; exact hPc, hKX.warm hW, hEm s U hW.alike hE, hDc.weaken (fun _ _ _ _ => trivial)⟩⟩ rfl hn hsize hst (lv_room hW) hdg hc) hS (fun q _ h => hF q h) hF (fun u t H1 locs1 ht hvm hw hB hz1 hk1 hS1 => ?_)
  obtain ⟨hP1, hD1⟩ := hB
  rw [ht] at hP1
  obtain ⟨hPj, hDj⟩ := wjoin hP hD hp (List.perm_append_comm (l₁ := w1 u) (l₂ := wr)) hk1 hF hP1 hD1
  exact W.widen hk2 hn2 (kk u H1 locs1 hw hPj hDj hS1)
theorem newI_n (hx : p.tables.exec = Jvm.exec) (hb : c.code = cc) (hG : ∀ w ∈ GW, w.before args s = true) (hKX : KX D cy s) (hP : va_P D vwCl ws H) (hD : va_D A ws) (hS : va_S A H0 H locs) (hA : ∀ q, H0.size ≤ q → A q) {n : Int32} {N : Nat} (hn : ¬ n < 0) (hN : n.toNatClampNeg = N) (hbytes : N * componentBytes .int ≤ 536870912) (hcells : cells + 1 ≤ R.cells) (hslots : slots + N ≤ R.slots) (hdg : decode cc pc = .ok (.newarray .int, 2)) {k2 n2 : Nat} (hk2 : cells + 1 ≤ k2) (hn2 : slots + N ≤ n2)
    (kk : ∀ (q : Nat) (H1 : Heap), va_P D vwCl (ws ++ [(q, .inl (cy 0, N, .inl (fun _ => 0)))]) H1 → va_D A (ws ++ [(q, .inl (cy 0, N, .inl (fun _ => 0)))]) → va_S A H0 H1 locs → W p l e R s m args below meth c H1 locs k2 n2 Q (F0 m (pc + 2) ls (.ref q :: rest))) : W p l e R s m args below meth c H locs cells slots Q (F0 m pc ls (.int n :: rest)) := by
  refine va_newa (atype := .int) (a0 := (N, .inl (fun _ => 0))) hx hb (hG _ mw3_5) rfl hKX.1 hP hD hS hA (fun cA => rfl) hn hN hbytes hcells hslots hdg (fun q cA H1 hK h1 h2 h3 => ?_)
  have e : cA = cy 0 := Option.some.inj ((va_nm_int (hK.2 4 _ rfl).2).symm.trans (va_nm_int (hKX.1.2 0 _ rfl).2))
  rw [e] at h1 h2
  exact W.widen hk2 hn2 (kk q H1 h1 h2 h3)
theorem newB_n (hx : p.tables.exec = Jvm.exec) (hb : c.code = cc) (hG : ∀ w ∈ GW, w.before args s = true) (hKX : KX D cy s) (hP : va_P D vwCl ws H) (hD : va_D A ws) (hS : va_S A H0 H locs) (hA : ∀ q, H0.size ≤ q → A q) {n : Int32} {N : Nat} (hn : ¬ n < 0) (hN : n.toNatClampNeg = N) (hbytes : N * componentBytes .byte ≤ 536870912) (hcells : cells + 1 ≤ R.cells) (hslots : slots + N ≤ R.slots) (hdg : decode cc pc = .ok (.newarray .byte, 2)) {k2 n2 : Nat} (hk2 : cells + 1 ≤ k2) (hn2 : slots + N ≤ n2)
    (kk : ∀ (q : Nat) (H1 : Heap), va_P D vwCl (ws ++ [(q, .inl (cy 1, N, .inl (fun _ => 0)))]) H1 → va_D A (ws ++ [(q, .inl (cy 1, N, .inl (fun _ => 0)))]) → va_S A H0 H1 locs → W p l e R s m args below meth c H1 locs k2 n2 Q (F0 m (pc + 2) ls (.ref q :: rest))) : W p l e R s m args below meth c H locs cells slots Q (F0 m pc ls (.int n :: rest)) := by
  refine va_newa (atype := .byte) (a0 := (N, .inl (fun _ => 0))) hx hb (hG _ mw4_20) rfl hKX.1 hP hD hS hA (fun cA => rfl) hn hN hbytes hcells hslots hdg (fun q cA H1 hK h1 h2 h3 => ?_)
  have e : cA = cy 1 := Option.some.inj ((va_nm_byte (hK.2 4 _ rfl).2).symm.trans (va_nm_byte (hKX.1.2 1 _ rfl).2))
  rw [e] at h1 h2
  exact W.widen hk2 hn2 (kk q H1 h1 h2 h3)
theorem newJ_n (hx : p.tables.exec = Jvm.exec) (hb : c.code = cc) (hG : ∀ w ∈ GW, w.before args s = true) (hKX : KX D cy s) (hP : va_P D vwCl ws H) (hD : va_D A ws) (hS : va_S A H0 H locs) (hA : ∀ q, H0.size ≤ q → A q) {n : Int32} {N : Nat} (hn : ¬ n < 0) (hN : n.toNatClampNeg = N) (hbytes : N * componentBytes .long ≤ 536870912) (hcells : cells + 1 ≤ R.cells) (hslots : slots + N ≤ R.slots) (hdg : decode cc pc = .ok (.newarray .long, 2)) {k2 n2 : Nat} (hk2 : cells + 1 ≤ k2) (hn2 : slots + N ≤ n2)
    (kk : ∀ (q : Nat) (H1 : Heap), va_P D vwCl (ws ++ [(q, .inl (cy 2, N, .inr (.inl (fun _ => 0))))]) H1 → va_D A (ws ++ [(q, .inl (cy 2, N, .inr (.inl (fun _ => 0))))]) → va_S A H0 H1 locs → W p l e R s m args below meth c H1 locs k2 n2 Q (F0 m (pc + 2) ls (.ref q :: rest))) : W p l e R s m args below meth c H locs cells slots Q (F0 m pc ls (.int n :: rest)) := by
  refine va_newa (atype := .long) (a0 := (N, .inr (.inl (fun _ => 0)))) hx hb (hG _ mw5_4) rfl hKX.1 hP hD hS hA (fun cA => rfl) hn hN hbytes hcells hslots hdg (fun q cA H1 hK h1 h2 h3 => ?_)
  have e : cA = cy 2 := Option.some.inj ((va_nm_long (hK.2 4 _ rfl).2).symm.trans (va_nm_long (hKX.1.2 2 _ rfl).2))
  rw [e] at h1 h2
  exact W.widen hk2 hn2 (kk q H1 h1 h2 h3)
theorem newQ_n {own : String} {index : Nat} (hx : p.tables.exec = Jvm.exec) (hb : c.code = cc) (hown : s.vm.findClass own = some m.cls) (hcl : Cond.classLink own index "ClaimLadder$Tape" ∈ GW) (hG : ∀ w ∈ GW, w.before args s = true) (hKX : KX D cy s) (hE : va_AO "ClaimLadder$Tape" s) (hP : va_P D vwCl ws H) (hD : va_D A ws) (hS : va_S A H0 H locs) (hA : ∀ q, H0.size ≤ q → A q) {n : Int32} {N : Nat} (hn : ¬ n < 0) (hN : n.toNatClampNeg = N) (hbytes : N * 4 ≤ 536870912) (hcells : cells + 1 ≤ R.cells) (hslots : slots + N ≤ R.slots) (hdg : decode cc pc = .ok (.anewarray index, 3)) {k2 n2 : Nat} (hk2 : cells + 1 ≤ k2) (hn2 : slots + N ≤ n2)
    (kk : ∀ (q : Nat) (H1 : Heap), va_P D vwCl (ws ++ [(q, .inl (cy 3, N, .inr (.inr (.inr (.inr (fun _ => none))))))]) H1 → va_D A (ws ++ [(q, .inl (cy 3, N, .inr (.inr (.inr (.inr (fun _ => none))))))]) → va_S A H0 H1 locs → W p l e R s m args below meth c H1 locs k2 n2 Q (F0 m (pc + 3) ls (.ref q :: rest))) : W p l e R s m args below meth c H locs cells slots Q (F0 m pc ls (.int n :: rest)) := by
  refine va_newq hx hb hown (hG _ hcl) hE hKX.1 hP hD hS hA hn hN hbytes hcells hslots hdg (fun q cA H1 hK h1 h2 h3 => ?_)
  have e : cA = cy 3 := Option.some.inj ((va_nmO (hK.2 4 _ rfl).2 rfl).symm.trans (va_nmO (hKX.1.2 3 _ rfl).2 rfl))
  rw [e] at h1 h2
  exact W.widen hk2 hn2 (kk q H1 h1 h2 h3)
theorem aast_n (hx : p.tables.exec = Jvm.exec) (hb : c.code = cc) (hKX : KX D cy s) (hP : va_P D vwCl ws H) (hD : va_D A ws) (hS : va_S A H0 H locs) (q0 qk : Nat) {n k v : Nat} {vs : List Value} {f : Nat → Option Nat} {i : Int32} (ha : ws[q0]? = some (a, .inl (cy 3, n, .inr (.inr (.inr (.inr f)))))) (hv : ws[qk]? = some (v, .inr (4, vs))) (hi : i = nI k) (hk : k < n) (hn : n < 2 ^ 31) (hdg : decode cc pc = .ok (.aastore, 1))
    (kk : ∀ (H1 : Heap) (locs1 : List Loc), va_P D vwCl (ws.set q0 (a, .inl (cy 3, n, .inr (.inr (.inr (.inr (va_up f k (some v)))))))) H1 → va_D A (ws.set q0 (a, .inl (cy 3, n, .inr (.inr (.inr (.inr (va_up f k (some v)))))))) → va_S A H0 H1 locs1 → W p l e R s m args below meth c H1 locs1 cells slots Q (F0 m (pc + 1) ls rest)) : W p l e R s m args below meth c H locs cells slots Q (F0 m pc ls (.ref v :: .int i :: .ref a :: rest)) := by
  subst hi
  refine va_astq hx hb hKX.1 hP hD hS q0 3 qk 4 ha rfl hv rfl (vp_in_nI hk hn) hdg (fun H1 locs1 h1 h2 h3 => ?_)
  rw [nI_clamp (Nat.lt_trans hk hn)] at h1 h2
  exact kk H1 locs1 h1 h2 h3
end MK
theorem hn_X6_init : yX6_init.name = "<init>" := by decide +kernel
theorem hn_X7_init : yX7_init.name = "<init>" := by decide +kernel
theorem hn_X3_init : yX3_init.name = "<init>" := by decide +kernel
theorem hn_X1_init : yX1_init.name = "<init>" := by decide +kernel
theorem hn_X5_init : yX5_init.name = "<init>" := by decide +kernel
theorem hn_X0_init : yX0_init.name = "<init>" := by decide +kernel
theorem hn_X2_init : yX2_init.name = "<init>" := by decide +kernel
theorem hn_X4_init : yX4_init.name = "<init>" := by decide +kernel
theorem he_X6_init : yX6_init.cls ≠ "java/lang/invoke/MethodHandle" ∧ yX6_init.cls ≠ "java/lang/invoke/VarHandle" ∧ (parseMethodDescriptor yX6_init.desc).map (fun d => d.parameters.length) = some 0 := by decide +kernel
theorem he_X7_init : yX7_init.cls ≠ "java/lang/invoke/MethodHandle" ∧ yX7_init.cls ≠ "java/lang/invoke/VarHandle" ∧ (parseMethodDescriptor yX7_init.desc).map (fun d => d.parameters.length) = some 0 := by decide +kernel
theorem he_X3_init : yX3_init.cls ≠ "java/lang/invoke/MethodHandle" ∧ yX3_init.cls ≠ "java/lang/invoke/VarHandle" ∧ (parseMethodDescriptor yX3_init.desc).map (fun d => d.parameters.length) = some 0 := by decide +kernel
theorem he_X1_init : yX1_init.cls ≠ "java/lang/invoke/MethodHandle" ∧ yX1_init.cls ≠ "java/lang/invoke/VarHandle" ∧ (parseMethodDescriptor yX1_init.desc).map (fun d => d.parameters.length) = some 1 := by decide +kernel
theorem he_X5_init : yX5_init.cls ≠ "java/lang/invoke/MethodHandle" ∧ yX5_init.cls ≠ "java/lang/invoke/VarHandle" ∧ (parseMethodDescriptor yX5_init.desc).map (fun d => d.parameters.length) = some 0 := by decide +kernel
theorem he_X0_init : yX0_init.cls ≠ "java/lang/invoke/MethodHandle" ∧ yX0_init.cls ≠ "java/lang/invoke/VarHandle" ∧ (parseMethodDescriptor yX0_init.desc).map (fun d => d.parameters.length) = some 1 := by decide +kernel
theorem he_X2_init : yX2_init.cls ≠ "java/lang/invoke/MethodHandle" ∧ yX2_init.cls ≠ "java/lang/invoke/VarHandle" ∧ (parseMethodDescriptor yX2_init.desc).map (fun d => d.parameters.length) = some 0 := by decide +kernel
theorem he_X4_init : yX4_init.cls ≠ "java/lang/invoke/MethodHandle" ∧ yX4_init.cls ≠ "java/lang/invoke/VarHandle" ∧ (parseMethodDescriptor yX4_init.desc).map (fun d => d.parameters.length) = some 0 := by decide +kernel
