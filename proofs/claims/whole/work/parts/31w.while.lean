/-! a loop without a counter, with what holds at its head -/
section WI
variable {p : Program} {l : Launch} {e : Env} {R : Room} {s : State} {m : MethodId} {args : Array Value} {below : List Frame} {meth : Method} {c : Code} {H : Heap} {locs : List Loc} {cells slots : Nat} {Q : State → Prop}
variable {pc nL : Nat} {ls : Array Slot} {st : List Value} {D : va_G} {A : Nat → Prop} {H0 : Heap} {cl : List vw_C}
theorem loopWhI {σ : Type} {pcX : Nat} (b : σ → σ ⊕ σ) (N : Nat) (z0 r : σ) (hex : wl b N z0 = some r) (I : σ → Prop) (hI0 : I z0) (LV : σ → List (Nat × Value)) (WD : σ → va_W) (LX : σ → List (Nat × Value)) (hP : va_P D cl (WD z0) H) (hD : va_D A (WD z0)) (hS : va_S A H0 H locs) (hl : lv_has ls nL (LV z0))
    (cont : ∀ (z : σ) (H : Heap) (locs : List Loc) (ls : Array Slot), z = r → I z → va_P D cl (WD z) H → va_D A (WD z) → va_S A H0 H locs → lv_has ls nL (LX z) → W p l e R s m args below meth c H locs cells slots Q (F0 m pcX ls st))
    (step : ∀ (z : σ) (H : Heap) (locs : List Loc) (ls : Array Slot), I z → va_P D cl (WD z) H → va_D A (WD z) → va_S A H0 H locs → lv_has ls nL (LV z) →
      (∀ (z' : σ) (H' : Heap) (locs' : List Loc) (ls' : Array Slot), b z = .inl z' → I z' → va_P D cl (WD z') H' → va_D A (WD z') → va_S A H0 H' locs' → lv_has ls' nL (LV z') → W p l e R s m args below meth c H' locs' cells slots Q (F0 m pc ls' st)) →
      (∀ (z' : σ) (H' : Heap) (locs' : List Loc) (ls' : Array Slot), b z = .inr z' → I z' → va_P D cl (WD z') H' → va_D A (WD z') → va_S A H0 H' locs' → lv_has ls' nL (LX z') → W p l e R s m args below meth c H' locs' cells slots Q (F0 m pcX ls' st)) → W p l e R s m args below meth c H locs cells slots Q (F0 m pc ls st)) :
    W p l e R s m args below meth c H locs cells slots Q (F0 m pc ls st) := by
  have key : ∀ (d : Nat) (z : σ) (H : Heap) (locs : List Loc) (ls : Array Slot), wl b d z = some r → I z → va_P D cl (WD z) H → va_D A (WD z) → va_S A H0 H locs → lv_has ls nL (LV z) → W p l e R s m args below meth c H locs cells slots Q (F0 m pc ls st) := by
    intro d
    induction d with
    | zero => intro z H locs ls h; cases h
    | succ d ih =>
      intro z H locs ls h hI hP hD hS hl
      refine step z H locs ls hI hP hD hS hl (fun z' H' locs' ls' hb => ?_) (fun z' H' locs' ls' hb => ?_)
      · rw [wl_inl hb] at h
        exact ih z' H' locs' ls' h
      · rw [wl_inr hb] at h
        exact cont z' H' locs' ls' (Option.some.inj h)
  exact key N z0 H locs ls hex hI0 hP hD hS hl
end WI
