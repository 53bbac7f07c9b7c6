/-! loops without a counter: by fuel; that the fuel is enough is a plain fact -/
def wl {σ : Type} (b : σ → σ ⊕ σ) : Nat → σ → Option σ
  | 0, _ => none
  | d + 1, z => match b z with
    | .inl y => wl b d y
    | .inr x => some x
theorem wl_inl {σ : Type} {b : σ → σ ⊕ σ} {d : Nat} {z y : σ} (h : b z = .inl y) : wl b (d + 1) z = wl b d y := by
  show (match b z with | .inl y => wl b d y | .inr x => some x) = _
  rw [h]
theorem wl_inr {σ : Type} {b : σ → σ ⊕ σ} {d : Nat} {z y : σ} (h : b z = .inr y) : wl b (d + 1) z = some y := by
  show (match b z with | .inl y => wl b d y | .inr x => some x) = _
  rw [h]
theorem wl_some {σ : Type} {b : σ → σ ⊕ σ} {d : Nat} {z y : σ} (h : (wl b d z).isSome = true) : wl b d z = some ((wl b d z).getD y) := by
  cases hw : wl b d z with
  | none => rw [hw] at h; cases h
  | some x => rfl
theorem wl_more {σ : Type} {b : σ → σ ⊕ σ} {x : σ} : ∀ {d : Nat} {z : σ} (e : Nat), wl b d z = some x → wl b (d + e) z = some x
  | 0, z, e, h => by cases h
  | d + 1, z, e, h => by
    rw [show d + 1 + e = (d + e) + 1 by omega]
    cases hb : b z with
    | inl y =>
      rw [wl_inl hb] at h ⊢
      exact wl_more e h
    | inr y =>
      rw [wl_inr hb] at h ⊢
      exact h
section WH
variable {p : Program} {l : Launch} {e : Env} {R : Room} {s : State} {m : MethodId} {args : Array Value} {below : List Frame} {meth : Method} {c : Code} {H : Heap} {locs : List Loc} {cells slots : Nat} {Q : State → Prop}
variable {pc nL : Nat} {ls : Array Slot} {st : List Value} {D : va_G} {A : Nat → Prop} {H0 : Heap} {cl : List vw_C}
theorem loopWh {σ : Type} {pcX : Nat} (b : σ → σ ⊕ σ) (N : Nat) (z0 r : σ) (hex : wl b N z0 = some r) (LV : σ → List (Nat × Value)) (WD : σ → va_W) (LX : σ → List (Nat × Value)) (hP : va_P D cl (WD z0) H) (hD : va_D A (WD z0)) (hS : va_S A H0 H locs) (hl : lv_has ls nL (LV z0))
    (cont : ∀ (z : σ) (H : Heap) (locs : List Loc) (ls : Array Slot), z = r → va_P D cl (WD z) H → va_D A (WD z) → va_S A H0 H locs → lv_has ls nL (LX z) → W p l e R s m args below meth c H locs cells slots Q (F0 m pcX ls st))
    (step : ∀ (z : σ) (H : Heap) (locs : List Loc) (ls : Array Slot), va_P D cl (WD z) H → va_D A (WD z) → va_S A H0 H locs → lv_has ls nL (LV z) →
      (∀ (z' : σ) (H' : Heap) (locs' : List Loc) (ls' : Array Slot), b z = .inl z' → va_P D cl (WD z') H' → va_D A (WD z') → va_S A H0 H' locs' → lv_has ls' nL (LV z') → W p l e R s m args below meth c H' locs' cells slots Q (F0 m pc ls' st)) →
      (∀ (z' : σ) (H' : Heap) (locs' : List Loc) (ls' : Array Slot), b z = .inr z' → va_P D cl (WD z') H' → va_D A (WD z') → va_S A H0 H' locs' → lv_has ls' nL (LX z') → W p l e R s m args below meth c H' locs' cells slots Q (F0 m pcX ls' st)) → W p l e R s m args below meth c H locs cells slots Q (F0 m pc ls st)) :
    W p l e R s m args below meth c H locs cells slots Q (F0 m pc ls st) := by
  have key : ∀ (d : Nat) (z : σ) (H : Heap) (locs : List Loc) (ls : Array Slot), wl b d z = some r → va_P D cl (WD z) H → va_D A (WD z) → va_S A H0 H locs → lv_has ls nL (LV z) → W p l e R s m args below meth c H locs cells slots Q (F0 m pc ls st) := by
    intro d
    induction d with
    | zero => intro z H locs ls h; cases h
    | succ d ih =>
      intro z H locs ls h hP hD hS hl
      refine step z H locs ls hP hD hS hl (fun z' H' locs' ls' hb => ?_) (fun z' H' locs' ls' hb => ?_)
      · rw [wl_inl hb] at h
        exact ih z' H' locs' ls' h
      · rw [wl_inr hb] at h
        exact cont z' H' locs' ls' (Option.some.inj h)
  exact key N z0 H locs ls hex hP hD hS hl
theorem loopWhR {σ : Type} {pcX : Nat} (b : σ → σ ⊕ σ) (N : Nat) (z0 r : σ) (hex : wl b N z0 = some r) (LV : σ → List (Nat × Value)) (LX : σ → List (Nat × Value)) (hl : lv_has ls nL (LV z0))
    (cont : ∀ (z : σ) (ls : Array Slot), z = r → lv_has ls nL (LX z) → W p l e R s m args below meth c H locs cells slots Q (F0 m pcX ls st))
    (step : ∀ (z : σ) (ls : Array Slot), lv_has ls nL (LV z) →
      (∀ (z' : σ) (ls' : Array Slot), b z = .inl z' → lv_has ls' nL (LV z') → W p l e R s m args below meth c H locs cells slots Q (F0 m pc ls' st)) →
      (∀ (z' : σ) (ls' : Array Slot), b z = .inr z' → lv_has ls' nL (LX z') → W p l e R s m args below meth c H locs cells slots Q (F0 m pcX ls' st)) → W p l e R s m args below meth c H locs cells slots Q (F0 m pc ls st)) :
    W p l e R s m args below meth c H locs cells slots Q (F0 m pc ls st) := by
  have key : ∀ (d : Nat) (z : σ) (ls : Array Slot), wl b d z = some r → lv_has ls nL (LV z) → W p l e R s m args below meth c H locs cells slots Q (F0 m pc ls st) := by
    intro d
    induction d with
    | zero => intro z ls h; cases h
    | succ d ih =>
      intro z ls h hl
      refine step z ls hl (fun z' ls' hb => ?_) (fun z' ls' hb => ?_)
      · rw [wl_inl hb] at h
        exact ih z' ls' h
      · rw [wl_inr hb] at h
        exact cont z' ls' (Option.some.inj h)
  exact key N z0 ls hex hl
end WH
