/-! more rows: a value renamed, reads with a known value, bytes, references, copies, loops that break -/
theorem le_n {y : Int32} {N k : Nat} (hy : y = nI N) (hN : N < 2 ^ 31) (hk : k < 2 ^ 31) : y ≤ nI k ↔ N ≤ k := by subst hy; exact nI_leI hN hk
theorem in_of {c : Int32} {n : Nat} (hn : n < 2 ^ 31) (h1 : ¬ c < 0) (h2 : ¬ nI n ≤ c) : ∃ j, c.toNatClampNeg = j ∧ j < n ∧ c = nI j := by
  rcases pk_ix c hn with h | h | ⟨j, hj, rfl⟩
  · exact absurd h h1
  · exact absurd h h2
  · exact ⟨j, nI_clamp (Nat.lt_trans hj hn), hj, rfl⟩
def mrg {σ : Type} (x : σ ⊕ σ) : σ := match x with
  | .inl z => z
  | .inr z => z
section MR
variable {p : Program} {l : Launch} {e : Env} {R : Room} {s : State} {m : MethodId} {args : Array Value} {below : List Frame} {meth : Method} {c : Code} {H : Heap} {locs : List Loc} {cells slots : Nat} {Q : State → Prop}
variable {cc : ByteArray} {pc nL : Nat} {ls : Array Slot} {rest st : List Value} {D : va_G} {cy : Nat → ClassId} {A : Nat → Prop} {a : Nat} {ws : va_W} {H0 : Heap}
theorem topi_eq {x y : Int32} (h : x = y) (k : W p l e R s m args below meth c H locs cells slots Q (F0 m pc ls (.int y :: rest))) : W p l e R s m args below meth c H locs cells slots Q (F0 m pc ls (.int x :: rest)) := by subst h; exact k
theorem iald_v (hx : p.tables.exec = Jvm.exec) (hb : c.code = cc) (hKX : KX D cy s) (hP : va_P D vwCl ws H) (q0 : Nat) {n k : Nat} {f : Nat → Int32} {i v : Int32} (ha : ws[q0]? = some (a, .inl (cy 0, n, .inl f))) (hi : i = nI k) (hk : k < n) (hn : n < 2 ^ 31) (hv : f k = v) (hdg : decode cc pc = .ok (.iaload, 1))
    (kk : W p l e R s m args below meth c H locs cells slots Q (F0 m (pc + 1) ls (.int v :: rest))) : W p l e R s m args below meth c H locs cells slots Q (F0 m pc ls (.int i :: .ref a :: rest)) := by
  subst hv
  exact iald_n hx hb hKX hP q0 ha hi hk hn hdg kk
theorem bast_n (hx : p.tables.exec = Jvm.exec) (hb : c.code = cc) (hKX : KX D cy s) (hP : va_P D vwCl ws H) (hD : va_D A ws) (hS : va_S A H0 H locs) (q0 : Nat) {n k : Nat} {f : Nat → Int32} {i x : Int32} (ha : ws[q0]? = some (a, .inl (cy 1, n, .inl f))) (hi : i = nI k) (hk : k < n) (hn : n < 2 ^ 31) (hdg : decode cc pc = .ok (.bastore, 1))
    (kk : ∀ (H1 : Heap) (locs1 : List Loc), va_P D vwCl (ws.set q0 (a, .inl (cy 1, n, .inl (upd f k (vp_nar .byte x))))) H1 → va_D A (ws.set q0 (a, .inl (cy 1, n, .inl (upd f k (vp_nar .byte x))))) → va_S A H0 H1 locs1 → W p l e R s m args below meth c H1 locs1 cells slots Q (F0 m (pc + 1) ls rest)) : W p l e R s m args below meth c H locs cells slots Q (F0 m pc ls (.int x :: .int i :: .ref a :: rest)) := by
  subst hi
  refine va_bast hx hb hKX.1 hP hD hS q0 1 ha rfl (vp_in_nI hk hn) hdg (fun H1 locs1 h1 h2 h3 => ?_)
  rw [nI_clamp (Nat.lt_trans hk hn)] at h1 h2
  exact kk H1 locs1 h1 h2 h3
theorem aald_n (hx : p.tables.exec = Jvm.exec) (hb : c.code = cc) (hKX : KX D cy s) (hP : va_P D vwCl ws H) (q0 : Nat) {n k v : Nat} {f : Nat → Option Nat} {i : Int32} (ha : ws[q0]? = some (a, .inl (cy 3, n, .inr (.inr (.inr (.inr f)))))) (hi : i = nI k) (hk : k < n) (hn : n < 2 ^ 31) (hv : f k = some v) (hdg : decode cc pc = .ok (.aaload, 1))
    (kk : W p l e R s m args below meth c H locs cells slots Q (F0 m (pc + 1) ls (.ref v :: rest))) : W p l e R s m args below meth c H locs cells slots Q (F0 m pc ls (.int i :: .ref a :: rest)) := by
  subst hi
  refine va_aldq hx hb hKX.1 hP q0 3 ha rfl (vp_in_nI hk hn) hdg ?_
  rw [nI_clamp (Nat.lt_trans hk hn), hv]
  exact kk
theorem copyi_n {own : String} {index : Nat} (h1 : Cond.methodLink own index arraycopyName ∈ GW) (hx : p.tables.exec = Jvm.exec) (hb : c.code = cc) (hml : c.maxLocals = ls.size) (hG : ∀ w ∈ GW, w.before args s = true) (hown : s.vm.findClass own = some m.cls) (hKX : KX D cy s) (hP : va_P D vwCl ws H) (hD : va_D A ws) (hS : va_S A H0 H locs) (q0 q1 : Nat) {a0 n0 n1 i j n : Nat} {f g : Nat → Int32} {sp dp nn : Int32} (ha0 : ws[q0]? = some (a0, .inl (cy 0, n0, .inl f))) (ha1 : ws[q1]? = some (a, .inl (cy 0, n1, .inl g))) (hi : sp = nI i) (hj : dp = nI j) (hnn : nn = nI n) (h4 : i + n ≤ n0) (h5 : j + n ≤ n1) (hz : n0 < 2 ^ 31) (hz1 : n1 < 2 ^ 31)
    (hnat : Cond.native arraycopyName ∈ GW) (hstat : Cond.static arraycopyName ∈ GW) (hini : Cond.initialized "java/lang/System" ∈ GW) (hfr : 1 ≤ R.frames) (hlo : (rest.map fun v => v.category).sum + (nativeFrameWords "java/lang/System" "arraycopy" 5 + 11) ≤ R.locals) (hdg : decode cc pc = .ok (.invokestatic index, 3))
    (kk : ∀ (H1 : Heap) (locs1 : List Loc), va_P D vwCl (ws.set q1 (a, .inl (cy 0, n1, .inl (va_cpy f g i j n)))) H1 → va_D A (ws.set q1 (a, .inl (cy 0, n1, .inl (va_cpy f g i j n)))) → va_S A H0 H1 locs1 → W p l e R s m args below meth c H1 locs1 cells slots Q (F0 m (pc + 3) ls rest)) : W p l e R s m args below meth c H locs cells slots Q (F0 m pc ls (.int nn :: .int dp :: .ref a :: .int sp :: .ref a0 :: rest)) := by
  subst hi; subst hj; subst hnn
  have e1 : (nI i).toNatClampNeg = i := nI_clamp (by omega)
  have e2 : (nI j).toNatClampNeg = j := nI_clamp (by omega)
  have e3 : (nI n).toNatClampNeg = n := nI_clamp (by omega)
  refine va_copyi hx hb hml hown (hG _ h1) (hG _ hnat) (hG _ hstat) (hG _ hini) hKX.1 hP hD hS q0 q1 0 0 ha0 ha1 rfl rfl rfl (nI_pos (by omega)) (nI_pos (by omega)) (nI_pos (by omega)) (by rw [e1, e3]; exact h4) (by rw [e2, e3]; exact h5) (fun _ _ => rfl) hfr hlo hdg (fun H1 locs1 k1 k2 k3 => ?_)
  rw [e1, e2, e3] at k1 k2
  exact kk H1 locs1 k1 k2 k3
theorem copyl_n {own : String} {index : Nat} (h1 : Cond.methodLink own index arraycopyName ∈ GW) (hx : p.tables.exec = Jvm.exec) (hb : c.code = cc) (hml : c.maxLocals = ls.size) (hG : ∀ w ∈ GW, w.before args s = true) (hown : s.vm.findClass own = some m.cls) (hKX : KX D cy s) (hP : va_P D vwCl ws H) (hD : va_D A ws) (hS : va_S A H0 H locs) (q0 q1 : Nat) {a0 n0 n1 i j n : Nat} {f g : Nat → Int64} {sp dp nn : Int32} (ha0 : ws[q0]? = some (a0, .inl (cy 2, n0, .inr (.inl f)))) (ha1 : ws[q1]? = some (a, .inl (cy 2, n1, .inr (.inl g)))) (hi : sp = nI i) (hj : dp = nI j) (hnn : nn = nI n) (h4 : i + n ≤ n0) (h5 : j + n ≤ n1) (hz : n0 < 2 ^ 31) (hz1 : n1 < 2 ^ 31)
    (hnat : Cond.native arraycopyName ∈ GW) (hstat : Cond.static arraycopyName ∈ GW) (hini : Cond.initialized "java/lang/System" ∈ GW) (hfr : 1 ≤ R.frames) (hlo : (rest.map fun v => v.category).sum + (nativeFrameWords "java/lang/System" "arraycopy" 5 + 11) ≤ R.locals) (hdg : decode cc pc = .ok (.invokestatic index, 3))
    (kk : ∀ (H1 : Heap) (locs1 : List Loc), va_P D vwCl (ws.set q1 (a, .inl (cy 2, n1, .inr (.inl (va_cpy f g i j n))))) H1 → va_D A (ws.set q1 (a, .inl (cy 2, n1, .inr (.inl (va_cpy f g i j n))))) → va_S A H0 H1 locs1 → W p l e R s m args below meth c H1 locs1 cells slots Q (F0 m (pc + 3) ls rest)) : W p l e R s m args below meth c H locs cells slots Q (F0 m pc ls (.int nn :: .int dp :: .ref a :: .int sp :: .ref a0 :: rest)) := by
  subst hi; subst hj; subst hnn
  have e1 : (nI i).toNatClampNeg = i := nI_clamp (by omega)
  have e2 : (nI j).toNatClampNeg = j := nI_clamp (by omega)
  have e3 : (nI n).toNatClampNeg = n := nI_clamp (by omega)
  refine va_copyl hx hb hml hown (hG _ h1) (hG _ hnat) (hG _ hstat) (hG _ hini) hKX.1 hP hD hS q0 q1 2 2 ha0 ha1 rfl rfl rfl (nI_pos (by omega)) (nI_pos (by omega)) (nI_pos (by omega)) (by rw [e1, e3]; exact h4) (by rw [e2, e3]; exact h5) (fun _ _ => rfl) hfr hlo hdg (fun H1 locs1 k1 k2 k3 => ?_)
  rw [e1, e2, e3] at k1 k2
  exact kk H1 locs1 k1 k2 k3
/-- a counted loop that may break: both its ends come to pcX with the state mrg (itE b N z0) -/
theorem loopB {σ : Type} {cl : List vw_C} {pcX : Nat} (b : Nat → σ → σ ⊕ σ) (z0 : σ) (N : Nat) (LV : Nat → σ → List (Nat × Value)) (WD : σ → va_W) (LX : σ → List (Nat × Value)) (hP : va_P D cl (WD z0) H) (hD : va_D A (WD z0)) (hS : va_S A H0 H locs) (hl : lv_has ls nL (LV 0 z0))
    (cont : ∀ (z : σ) (H : Heap) (locs : List Loc) (ls : Array Slot), z = mrg (itE b N z0) → va_P D cl (WD z) H → va_D A (WD z) → va_S A H0 H locs → lv_has ls nL (LX z) → W p l e R s m args below meth c H locs cells slots Q (F0 m pcX ls st))
    (step : ∀ (k : Nat) (z : σ) (H : Heap) (locs : List Loc) (ls : Array Slot), k ≤ N → itE b k z0 = .inl z → va_P D cl (WD z) H → va_D A (WD z) → va_S A H0 H locs → lv_has ls nL (LV k z) →
      (∀ (z' : σ) (H' : Heap) (locs' : List Loc) (ls' : Array Slot), k < N → b k z = .inl z' → va_P D cl (WD z') H' → va_D A (WD z') → va_S A H0 H' locs' → lv_has ls' nL (LV (k + 1) z') → W p l e R s m args below meth c H' locs' cells slots Q (F0 m pc ls' st)) →
      (∀ (z' : σ) (H' : Heap) (locs' : List Loc) (ls' : Array Slot), k < N → b k z = .inr z' → va_P D cl (WD z') H' → va_D A (WD z') → va_S A H0 H' locs' → lv_has ls' nL (LX z') → W p l e R s m args below meth c H' locs' cells slots Q (F0 m pcX ls' st)) →
      (∀ (H' : Heap) (locs' : List Loc) (ls' : Array Slot), N = k → va_P D cl (WD z) H' → va_D A (WD z) → va_S A H0 H' locs' → lv_has ls' nL (LX z) → W p l e R s m args below meth c H' locs' cells slots Q (F0 m pcX ls' st)) → W p l e R s m args below meth c H locs cells slots Q (F0 m pc ls st)) :
    W p l e R s m args below meth c H locs cells slots Q (F0 m pc ls st) := by
  have key : ∀ (d k : Nat) (z : σ) (H : Heap) (locs : List Loc) (ls : Array Slot), k + d = N → itE b k z0 = .inl z → va_P D cl (WD z) H → va_D A (WD z) → va_S A H0 H locs → lv_has ls nL (LV k z) → W p l e R s m args below meth c H locs cells slots Q (F0 m pc ls st) := by
    intro d
    induction d with
    | zero =>
      intro k z H locs ls hk hz hP hD hS hl
      exact step k z H locs ls (by omega) hz hP hD hS hl (fun _ _ _ _ h => absurd h (by omega)) (fun _ _ _ _ h => absurd h (by omega)) (fun H' locs' ls' e => by
        subst e
        exact cont z H' locs' ls' (by rw [hz]; rfl))
    | succ d ih =>
      intro k z H locs ls hk hz hP hD hS hl
      exact step k z H locs ls (by omega) hz hP hD hS hl (fun z' H' locs' ls' _ hz' hP' hD' hS' hl' => ih (k + 1) z' H' locs' ls' (by omega) ((itE_go hz).trans hz') hP' hD' hS' hl') (fun z' H' locs' ls' hlt hz' => cont z' H' locs' ls' (by rw [itE_end hz hlt hz']; rfl)) (fun H' locs' ls' e => absurd e (by omega))
  exact key N 0 z0 H locs ls (by omega) rfl hP hD hS hl
theorem loopBR {σ : Type} {pcX : Nat} (b : Nat → σ → σ ⊕ σ) (z0 : σ) (N : Nat) (LV : Nat → σ → List (Nat × Value)) (LX : σ → List (Nat × Value)) (hl : lv_has ls nL (LV 0 z0))
    (cont : ∀ (z : σ) (ls : Array Slot), z = mrg (itE b N z0) → lv_has ls nL (LX z) → W p l e R s m args below meth c H locs cells slots Q (F0 m pcX ls st))
    (step : ∀ (k : Nat) (z : σ) (ls : Array Slot), k ≤ N → itE b k z0 = .inl z → lv_has ls nL (LV k z) →
      (∀ (z' : σ) (ls' : Array Slot), k < N → b k z = .inl z' → lv_has ls' nL (LV (k + 1) z') → W p l e R s m args below meth c H locs cells slots Q (F0 m pc ls' st)) →
      (∀ (z' : σ) (ls' : Array Slot), k < N → b k z = .inr z' → lv_has ls' nL (LX z') → W p l e R s m args below meth c H locs cells slots Q (F0 m pcX ls' st)) →
      (∀ (ls' : Array Slot), N = k → lv_has ls' nL (LX z) → W p l e R s m args below meth c H locs cells slots Q (F0 m pcX ls' st)) → W p l e R s m args below meth c H locs cells slots Q (F0 m pc ls st)) :
    W p l e R s m args below meth c H locs cells slots Q (F0 m pc ls st) := by
  have key : ∀ (d k : Nat) (z : σ) (ls : Array Slot), k + d = N → itE b k z0 = .inl z → lv_has ls nL (LV k z) → W p l e R s m args below meth c H locs cells slots Q (F0 m pc ls st) := by
    intro d
    induction d with
    | zero =>
      intro k z ls hk hz hl
      exact step k z ls (by omega) hz hl (fun _ _ h => absurd h (by omega)) (fun _ _ h => absurd h (by omega)) (fun ls' e => by
        subst e
        exact cont z ls' (by rw [hz]; rfl))
    | succ d ih =>
      intro k z ls hk hz hl
      exact step k z ls (by omega) hz hl (fun z' ls' _ hz' hl' => ih (k + 1) z' ls' (by omega) ((itE_go hz).trans hz') hl') (fun z' ls' hlt hz' => cont z' ls' (by rw [itE_end hz hlt hz']; rfl)) (fun ls' e => absurd e (by omega))
  exact key N 0 z0 ls (by omega) rfl hl
end MR
