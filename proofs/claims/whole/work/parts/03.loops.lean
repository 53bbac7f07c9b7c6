/-! loops: counted (state z, itr), searching (srch), with an early end (itE) -/
theorem ne_t {x k : Int32} {z : Int} (h : ¬ x = k) (hk : k.toInt = z) : x.toInt ≠ z := fun q => h (Int32.toInt_inj.mp (q.trans hk.symm))
theorem srch_none' {α : Type} {b : Nat → Option α} : ∀ (d k : Nat), (∀ j, k ≤ j → j < k + d → b j = none) → srch b d k = none
  | 0, _, _ => rfl
  | d + 1, k, h => by
    unfold srch
    rw [h k (Nat.le_refl k) (by omega)]
    exact srch_none' d (k + 1) (fun j h1 h2 => h j (by omega) (by omega))
theorem srch_none {α : Type} {b : Nat → Option α} {N : Nat} (h : ∀ j, j < N → b j = none) : srch b N 0 = none := srch_none' N 0 (fun j _ h2 => h j (by omega))
theorem srch_some' {α : Type} {b : Nat → Option α} {r : α} {t : Nat} (hb : b t = some r) : ∀ (d k : Nat), k ≤ t → t < k + d → (∀ j, k ≤ j → j < t → b j = none) → srch b d k = some r
  | 0, k, h1, h2, _ => absurd h2 (by omega)
  | d + 1, k, h1, h2, h => by
    unfold srch
    rcases Nat.eq_or_lt_of_le h1 with e | e
    · subst e; rw [hb]
    · rw [h k (Nat.le_refl k) e]
      exact srch_some' hb d (k + 1) e (by omega) (fun j h3 h4 => h j (by omega) h4)
theorem srch_some {α : Type} {b : Nat → Option α} {r : α} {t N : Nat} (h : ∀ j, j < t → b j = none) (ht : t < N) (hb : b t = some r) : srch b N 0 = some r := srch_some' hb N 0 (Nat.zero_le t) (by omega) (fun j _ h2 => h j h2)
def itE {σ ρ : Type} (b : Nat → σ → σ ⊕ ρ) : Nat → σ → σ ⊕ ρ
  | 0, z => .inl z
  | k + 1, z => match itE b k z with
    | .inl y => b k y
    | .inr r => .inr r
theorem itE_go {σ ρ : Type} {b : Nat → σ → σ ⊕ ρ} {k : Nat} {z0 z : σ} (h : itE b k z0 = .inl z) : itE b (k + 1) z0 = b k z := by
  show (match itE b k z0 with | .inl y => b k y | .inr r => .inr r) = _
  rw [h]
theorem itE_end' {σ ρ : Type} {b : Nat → σ → σ ⊕ ρ} {z0 : σ} {r : ρ} {k : Nat} (h : itE b k z0 = .inr r) : ∀ d, itE b (k + d) z0 = .inr r
  | 0 => h
  | d + 1 => by
    show (match itE b (k + d) z0 with | .inl y => b (k + d) y | .inr r => .inr r) = _
    rw [itE_end' h d]
theorem itE_end {σ ρ : Type} {b : Nat → σ → σ ⊕ ρ} {z0 z : σ} {r : ρ} {k N : Nat} (h : itE b k z0 = .inl z) (hk : k < N) (hb : b k z = .inr r) : itE b N z0 = .inr r := by
  have h1 := itE_end' ((itE_go h).trans hb) (N - (k + 1))
  rw [show k + 1 + (N - (k + 1)) = N by omega] at h1
  exact h1
theorem dn_lt {N j : Nat} (hN : N < 2 ^ 31) (hj : j ≤ N) : nI (N - j) - 1 < 0 ↔ N ≤ j := by
  rcases Nat.lt_or_ge j N with h | h
  · rw [show N - j = (N - j - 1) + 1 by omega, nI_pred]
    exact ⟨fun q => absurd q (nI_pos (by omega)), fun q => absurd q (by omega)⟩
  · have e : N - j = 0 := by omega
    rw [e]
    exact ⟨fun _ => h, fun _ => by decide⟩
theorem dn_in {N j : Nat} (h : j < N) : nI (N - j) - 1 = nI (N - 1 - j) := by
  rw [show N - j = (N - 1 - j) + 1 by omega, nI_pred]
theorem dn_nx {N j : Nat} (h : j < N) : nI (N - 1 - j) + (-1) = nI (N - (j + 1)) - 1 := by
  rw [show N - (j + 1) = N - 1 - j by omega, Int32.sub_eq_add_neg]
theorem gt_n {M k : Nat} (hM : M < 2 ^ 31) (hk : k < 2 ^ 31) : nI M < nI k ↔ M + 1 ≤ k := nI_ltI hM hk
section LP
variable {p : Program} {l : Launch} {e : Env} {R : Room} {s : State} {m : MethodId} {args : Array Value} {below : List Frame} {meth : Method} {c : Code} {H : Heap} {locs : List Loc} {cells slots : Nat} {Q : State → Prop}
variable {pc nL : Nat} {ls : Array Slot} {st : List Value} {D : va_G} {cl : List vw_C} {A : Nat → Prop} {H0 : Heap}
theorem loopR {σ : Type} (b : Nat → σ → σ) (z0 : σ) (N : Nat) (LV : Nat → σ → List (Nat × Value)) (hl : lv_has ls nL (LV 0 z0))
    (step : ∀ (k : Nat) (z : σ) (ls : Array Slot), k ≤ N → z = itr b k z0 → lv_has ls nL (LV k z) → (∀ (z' : σ) (ls' : Array Slot), k < N → z' = b k z → lv_has ls' nL (LV (k + 1) z') → W p l e R s m args below meth c H locs cells slots Q (F0 m pc ls' st)) → W p l e R s m args below meth c H locs cells slots Q (F0 m pc ls st)) :
    W p l e R s m args below meth c H locs cells slots Q (F0 m pc ls st) := by
  have key : ∀ (d k : Nat) (z : σ) (ls : Array Slot), k + d = N → z = itr b k z0 → lv_has ls nL (LV k z) → W p l e R s m args below meth c H locs cells slots Q (F0 m pc ls st) := by
    intro d
    induction d with
    | zero =>
      intro k z ls hk hz hl
      exact step k z ls (by omega) hz hl (fun _ _ h => absurd h (by omega))
    | succ d ih =>
      intro k z ls hk hz hl
      exact step k z ls (by omega) hz hl (fun z' ls' _ hz' hl' => ih (k + 1) z' ls' (by omega) (by rw [itr_succ, ← hz]; exact hz') hl')
  exact key N 0 z0 ls (by omega) rfl hl
theorem loopW {σ : Type} (b : Nat → σ → σ) (z0 : σ) (N : Nat) (LV : Nat → σ → List (Nat × Value)) (WD : Nat → σ → va_W) (hP : va_P D cl (WD 0 z0) H) (hD : va_D A (WD 0 z0)) (hS : va_S A H0 H locs) (hl : lv_has ls nL (LV 0 z0))
    (step : ∀ (k : Nat) (z : σ) (H : Heap) (locs : List Loc) (ls : Array Slot), k ≤ N → z = itr b k z0 → va_P D cl (WD k z) H → va_D A (WD k z) → va_S A H0 H locs → lv_has ls nL (LV k z) → (∀ (z' : σ) (H' : Heap) (locs' : List Loc) (ls' : Array Slot), k < N → z' = b k z → va_P D cl (WD (k + 1) z') H' → va_D A (WD (k + 1) z') → va_S A H0 H' locs' → lv_has ls' nL (LV (k + 1) z') → W p l e R s m args below meth c H' locs' cells slots Q (F0 m pc ls' st)) → W p l e R s m args below meth c H locs cells slots Q (F0 m pc ls st)) :
    W p l e R s m args below meth c H locs cells slots Q (F0 m pc ls st) := by
  have key : ∀ (d k : Nat) (z : σ) (H : Heap) (locs : List Loc) (ls : Array Slot), k + d = N → z = itr b k z0 → va_P D cl (WD k z) H → va_D A (WD k z) → va_S A H0 H locs → lv_has ls nL (LV k z) → W p l e R s m args below meth c H locs cells slots Q (F0 m pc ls st) := by
    intro d
    induction d with
    | zero =>
      intro k z H locs ls hk hz hP hD hS hl
      exact step k z H locs ls (by omega) hz hP hD hS hl (fun _ _ _ _ h => absurd h (by omega))
    | succ d ih =>
      intro k z H locs ls hk hz hP hD hS hl
      exact step k z H locs ls (by omega) hz hP hD hS hl (fun z' H' locs' ls' _ hz' hP' hD' hS' hl' => ih (k + 1) z' H' locs' ls' (by omega) (by rw [itr_succ, ← hz]; exact hz') hP' hD' hS' hl')
  exact key N 0 z0 H locs ls (by omega) rfl hP hD hS hl
theorem loopS {α : Type} (b : Nat → Option α) (N : Nat) (LV : Nat → List (Nat × Value)) (hl : lv_has ls nL (LV 0))
    (step : ∀ (k : Nat) (ls : Array Slot), k ≤ N → (∀ j, j < k → b j = none) → lv_has ls nL (LV k) → (∀ (ls' : Array Slot), k < N → b k = none → lv_has ls' nL (LV (k + 1)) → W p l e R s m args below meth c H locs cells slots Q (F0 m pc ls' st)) → W p l e R s m args below meth c H locs cells slots Q (F0 m pc ls st)) :
    W p l e R s m args below meth c H locs cells slots Q (F0 m pc ls st) := by
  have key : ∀ (d k : Nat) (ls : Array Slot), k + d = N → (∀ j, j < k → b j = none) → lv_has ls nL (LV k) → W p l e R s m args below meth c H locs cells slots Q (F0 m pc ls st) := by
    intro d
    induction d with
    | zero =>
      intro k ls hk hz hl
      exact step k ls (by omega) hz hl (fun _ h => absurd h (by omega))
    | succ d ih =>
      intro k ls hk hz hl
      exact step k ls (by omega) hz hl (fun ls' _ hz' hl' => ih (k + 1) ls' (by omega) (lt_s hz hz') hl')
  exact key N 0 ls (by omega) lt_0 hl
theorem loopE {σ ρ : Type} (b : Nat → σ → σ ⊕ ρ) (z0 : σ) (N : Nat) (LV : Nat → σ → List (Nat × Value)) (WD : Nat → σ → va_W) (hP : va_P D cl (WD 0 z0) H) (hD : va_D A (WD 0 z0)) (hS : va_S A H0 H locs) (hl : lv_has ls nL (LV 0 z0))
    (step : ∀ (k : Nat) (z : σ) (H : Heap) (locs : List Loc) (ls : Array Slot), k ≤ N → itE b k z0 = .inl z → va_P D cl (WD k z) H → va_D A (WD k z) → va_S A H0 H locs → lv_has ls nL (LV k z) → (∀ (z' : σ) (H' : Heap) (locs' : List Loc) (ls' : Array Slot), k < N → b k z = .inl z' → va_P D cl (WD (k + 1) z') H' → va_D A (WD (k + 1) z') → va_S A H0 H' locs' → lv_has ls' nL (LV (k + 1) z') → W p l e R s m args below meth c H' locs' cells slots Q (F0 m pc ls' st)) → W p l e R s m args below meth c H locs cells slots Q (F0 m pc ls st)) :
    W p l e R s m args below meth c H locs cells slots Q (F0 m pc ls st) := by
  have key : ∀ (d k : Nat) (z : σ) (H : Heap) (locs : List Loc) (ls : Array Slot), k + d = N → itE b k z0 = .inl z → va_P D cl (WD k z) H → va_D A (WD k z) → va_S A H0 H locs → lv_has ls nL (LV k z) → W p l e R s m args below meth c H locs cells slots Q (F0 m pc ls st) := by
    intro d
    induction d with
    | zero =>
      intro k z H locs ls hk hz hP hD hS hl
      exact step k z H locs ls (by omega) hz hP hD hS hl (fun _ _ _ _ h => absurd h (by omega))
    | succ d ih =>
      intro k z H locs ls hk hz hP hD hS hl
      exact step k z H locs ls (by omega) hz hP hD hS hl (fun z' H' locs' ls' _ hz' hP' hD' hS' hl' => ih (k + 1) z' H' locs' ls' (by omega) ((itE_go hz).trans hz') hP' hD' hS' hl')
  exact key N 0 z0 H locs ls (by omega) rfl hP hD hS hl
end LP
