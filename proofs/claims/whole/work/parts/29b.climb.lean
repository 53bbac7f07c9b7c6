/-! the reference's rings and rungs -/
theorem ring7_in {M : Nat → Int32} {c : Nat} (hc : c < 32) : ∀ (m : Nat), m ≤ 6 → ∀ (z : Nat → Int32) (x : Int32), itr (bd_X7_reach_138 c M) m (upd z c x) = upd z c (itr (bd_X0_findRings_19 M c) m x)
  | 0, _, _, _ => rfl
  | m + 1, hm, z, x => by
    rw [itr_succ, itr_succ, ring7_in hc m (by omega) z x]
    generalize itr (bd_X0_findRings_19 M c) m x = v
    unfold bd_X7_reach_138 bd_X0_findRings_19
    rw [has76 (by omega), has76 hc]
    by_cases e : f_X6_has (M c) (nI m) = 0
    · rw [if_pos e, if_pos e]
    · rw [if_neg e, if_neg e]
      by_cases e2 : f_X6_has (M m) (nI c) = 0
      · rw [if_pos e2, if_pos e2]
      · rw [if_neg e2, if_neg e2, pk_us]
        funext q
        by_cases g : q = c
        · subst g; rw [pk_us, pk_us]
        · rw [pk_un g, pk_un g, pk_un g]
theorem ring7 {n : Nat} (hn : n ≤ 6) {M G0 : Nat → Int32} {c : Nat} (hc : c < n) : itr (bd_X7_reach_117 n M) n G0 c = itr (bd_X0_findRings_19 M c) n ((1 : Int32) <<< (nI c &&& 31)) := by
  have key := itr_inv (b := bd_X7_reach_117 n M) (P := fun k y => ∀ c, c < k → y c = itr (bd_X0_findRings_19 M c) n ((1 : Int32) <<< (nI c &&& 31))) (z := G0) (fun c hc => absurd hc (Nat.not_lt_zero c)) (n := n) (fun k y hk ih => by
    intro c hc
    unfold bd_X7_reach_117
    rw [ring7_in (by omega) n hn]
    by_cases e : c = k
    · subst e; rw [pk_us]
    · rw [pk_un e]; exact ih c (by omega))
  exact key c hc
theorem reach7 {n : Nat} (hn : n ≤ 6) {s R0 G0 refers : Nat → Int32} (hs : ∀ c, c < n → s (29 + c) = refers c) {c : Nat} (hc : c < n) : (f_X7_reach s R0 G0 n).1 c = LT n refers c := by
  have h0 : ∀ c, c < n → itr (bd_X7_reach_2 s) n R0 c = refers c := fun a ha => ((copies_at (f := fun k => s (29 + k)) (fun _ _ => rfl) n a).trans (if_pos ha)).trans (hs a ha)
  exact reach_rows hn h0 c hc
theorem rings7 {n : Nat} (hn : n ≤ 6) {s R0 G0 refers : Nat → Int32} (hs : ∀ c, c < n → s (29 + c) = refers c) {c : Nat} (hc : c < n) : (f_X7_reach s R0 G0 n).2 c = LG n refers c := by
  have h := ring7 hn (M := (f_X7_reach s R0 G0 n).1) (G0 := G0) hc
  exact h.trans (rings_cong (fun a ha => reach7 hn hs ha) hc n (Nat.le_refl n))
/-- rungs that grow: z is what is held, f what it means -/
def CI (n : Nat) (refers : Nat → Int32) (f : Nat → Nat) : Prop := (∀ c e, c < n → e < n → gB (tB n refers) c e = true → f c = f e) ∧ ∀ c, c < n → f c ≤ RH n refers c
def CR (n : Nat) (z : Nat → Int32) (f : Nat → Nat) : Prop := ∀ c, c < n → z c = nI (f c)
theorem rise_in {n : Nat} (hn : n ≤ 6) {refers G : Nat → Int32} (hG : ∀ c, c < n → G c = LG n refers c) {c d : Nat} (hc : c < n) (hd : d < n) (hg : gB (tB n refers) c d = false) {z : Nat → Int32} {f : Nat → Nat} (hz : CR n z f) : ∀ m, m ≤ n → ∀ e, e < n → itr (bd_X7_rise_47 G c d) m z e = if e < m ∧ gB (tB n refers) c e = true then nI (f d + 1) else nI (f e)
  | 0, _, e, he => by rw [if_neg (fun q => absurd q.1 (Nat.not_lt_zero e))]; exact hz e he
  | m + 1, hm, e, he => by
    have ih := rise_in hn hG hc hd hg hz m (by omega)
    rw [itr_succ]
    generalize itr (bd_X7_rise_47 G c d) m z = y at ih ⊢
    have hb := LG_bit hn refers hc (d := m) (by omega)
    unfold bd_X7_rise_47
    rw [hG c hc]
    by_cases g : gB (tB n refers) c m = true
    · rw [if_neg (fun q => by rw [(has7_0 (by omega)).mp q, g] at hb; cases hb)]
      by_cases w : e = m
      · subst w
        rw [pk_us, if_pos ⟨by omega, g⟩, ih d hd, if_neg (fun q => by rw [hg] at q; cases q.2), nI_1]
      · rw [pk_un w, ih e he]
        by_cases v : e < m ∧ gB (tB n refers) c e = true
        · rw [if_pos v, if_pos ⟨by omega, v.2⟩]
        · rw [if_neg v, if_neg (fun q => v ⟨by omega, q.2⟩)]
    · have g0 : gB (tB n refers) c m = false := by cases hx : gB (tB n refers) c m <;> first | rfl | exact absurd hx g
      rw [if_pos ((has7_0 (by omega)).mpr (hb.trans g0)), ih e he]
      by_cases v : e < m ∧ gB (tB n refers) c e = true
      · rw [if_pos v, if_pos ⟨by omega, v.2⟩]
      · have v2 : ¬ (e < m + 1 ∧ gB (tB n refers) c e = true) := by
          intro q
          by_cases a : e = m
          · subst a; rw [g0] at q; cases q.2
          · exact v ⟨by omega, q.2⟩
        rw [if_neg v, if_neg v2]
theorem rise_step {n : Nat} (hn : n ≤ 6) {refers s G : Nat → Int32} (hs : ∀ c, c < n → s (29 + c) = refers c) (hG : ∀ c, c < n → G c = LG n refers c) {c d : Nat} (hc : c < n) (hd : d < n) {z : Nat → Int32} {f : Nat → Nat} (hz : CR n z f) (hI : CI n refers f) :
    ∃ f', CR n (f_X7_rise s G z n c d) f' ∧ CI n refers f' ∧ (∀ e, e < n → f e ≤ f' e) ∧ (rB refers c d = true → gB (tB n refers) c d = false → f d + 1 ≤ f' c) := by
  have lt : ∀ c, c < n → f c < 1000 := fun c hc => by
    have h1 := hI.2 c hc
    have h2 := RH_lt hn refers hc
    omega
  unfold f_X7_rise
  have hr : rB refers c d = bt (s (29 + c)) d := by rw [hs c hc]; rfl
  have hb := LG_bit hn refers hc hd
  by_cases e1 : f_X7_has (s (29 + c)) (nI d) = 0
  · rw [if_pos e1]
    exact ⟨f, hz, hI, fun _ _ => Nat.le_refl _, fun q => by rw [hr, (has7_0 (by omega)).mp e1] at q; cases q⟩
  · rw [if_neg e1, hG c hc]
    have r1 : rB refers c d = true := hr.trans (bf.mp (fun q => e1 ((has7_0 (by omega)).mpr q)))
    by_cases e2 : f_X7_has (LG n refers c) (nI d) = 0
    · rw [if_pos e2]
      have g0 : gB (tB n refers) c d = false := hb.symm.trans ((has7_0 (by omega)).mp e2)
      rw [hz c hc, hz d hd]
      by_cases e3 : f c ≤ f d
      · rw [if_pos ((nI_leI (Nat.lt_trans (lt c hc) (by decide)) (Nat.lt_trans (lt d hd) (by decide))).mpr e3)]
        refine ⟨fun e => if gB (tB n refers) c e = true then f d + 1 else f e, fun e he => ?_, ⟨fun x y hx hy h => ?_, fun e he => ?_⟩, fun e he => ?_, fun _ _ => ?_⟩
        · rw [rise_in hn hG hc hd g0 hz n (Nat.le_refl n) e he]
          dsimp only
          by_cases v : gB (tB n refers) c e = true
          · rw [if_pos ⟨he, v⟩, if_pos v]
          · rw [if_neg (fun q => v q.2), if_neg v]
        · dsimp only
          by_cases v : gB (tB n refers) c x = true
          · rw [if_pos v, if_pos (gB_tr (tB_tr hn refers) hc hx hy v h)]
          · rw [if_neg v, if_neg (fun q => v (gB_tr (tB_tr hn refers) hc hy hx q (gB_sy h)))]
            exact hI.1 x y hx hy h
        · dsimp only
          by_cases v : gB (tB n refers) c e = true
          · rw [if_pos v, RH_eq hn refers he]
            have ho : oP (rB refers) (tB n refers) n c d := ⟨c, hc, gB_rf _ c, r1, g0⟩
            have h1 := supF_ge (f := RH n refers) hd ((oB_iff hn refers he hd).mpr (o_ring (tB_tr hn refers) hc he hd v ho))
            have h2 := hI.2 d hd
            omega
          · rw [if_neg v]; exact hI.2 e he
        · dsimp only
          by_cases v : gB (tB n refers) c e = true
          · rw [if_pos v, ← hI.1 c e hc he v]; omega
          · rw [if_neg v]; exact Nat.le_refl _
        · dsimp only
          rw [if_pos (gB_rf _ c)]; exact Nat.le_refl _
      · rw [if_neg (fun q => e3 ((nI_leI (Nat.lt_trans (lt c hc) (by decide)) (Nat.lt_trans (lt d hd) (by decide))).mp q))]
        exact ⟨f, hz, hI, fun _ _ => Nat.le_refl _, fun _ _ => by omega⟩
    · rw [if_neg e2]
      exact ⟨f, hz, hI, fun _ _ => Nat.le_refl _, fun _ q => by rw [← hb] at q; exact absurd ((has7_0 (by omega)).mpr q) e2⟩
/-- what holds when the pairs ahead of (a, b) have been looked at in a round -/
def CP (n : Nat) (refers : Nat → Int32) (k a b : Nat) (z : Nat → Int32) : Prop := ∃ f, CR n z f ∧ CI n refers f ∧ (∀ x, x < n → muB n refers x ≤ k → RH n refers x ≤ f x) ∧ ∀ e d, e < n → d < n → (e < a ∨ (e = a ∧ d < b)) → rB refers e d = true → gB (tB n refers) e d = false → muB n refers d ≤ k → RH n refers d + 1 ≤ f e
theorem climb_in {n : Nat} (hn : n ≤ 6) {refers s G : Nat → Int32} (hs : ∀ c, c < n → s (29 + c) = refers c) (hG : ∀ c, c < n → G c = LG n refers c) {k a : Nat} (ha : a < n) {z : Nat → Int32} (h : CP n refers k a 0 z) : CP n refers k a n (itr (bd_X7_climb_47 s G n a) n z) := by
  refine itr_inv (P := fun b y => CP n refers k a b y) h (fun d y hd ih => ?_)
  obtain ⟨f, h1, h2, h3, h4⟩ := ih
  obtain ⟨f', g1, g2, g3, g4⟩ := rise_step hn hs hG ha hd h1 h2
  refine ⟨f', g1, g2, fun x hx hm => Nat.le_trans (h3 x hx hm) (g3 x hx), fun e d' he hd' hp r1 r2 hm => ?_⟩
  by_cases q : e = a ∧ d' = d
  · obtain ⟨q1, q2⟩ := q
    subst q1; subst q2
    have := g4 r1 r2
    have := h3 d' hd' hm
    omega
  · exact Nat.le_trans (h4 e d' he hd' (by omega) r1 r2 hm) (g3 e he)
theorem climb_round {n : Nat} (hn : n ≤ 6) {refers s G : Nat → Int32} (hs : ∀ c, c < n → s (29 + c) = refers c) (hG : ∀ c, c < n → G c = LG n refers c) {k : Nat} {z : Nat → Int32} (h : CP n refers k 0 0 z) : CP n refers (k + 1) 0 0 (bd_X7_climb_27 s G n k z) := by
  have key : CP n refers k n 0 (bd_X7_climb_27 s G n k z) := by
    unfold bd_X7_climb_27
    refine itr_inv (P := fun a y => CP n refers k a 0 y) h (fun a y ha ih => ?_)
    obtain ⟨f, h1, h2, h3, h4⟩ := climb_in hn hs hG ha ih
    exact ⟨f, h1, h2, h3, fun e d he hd hp => h4 e d he hd (by omega)⟩
  obtain ⟨f, h1, h2, h3, h4⟩ := key
  refine ⟨f, h1, h2, fun x hx hm => ?_, fun e d he hd hp => absurd hp (by omega)⟩
  rw [RH_eq hn refers hx]
  rcases supF_at (p := oB n refers x) (f := RH n refers) (m := n) with q | ⟨d, d1, d2, d3⟩
  · rw [q]; exact Nat.zero_le _
  · rw [d3]
    have hmu := oB_mu hn refers x d hx d1 d2
    obtain ⟨e, e1, e2, e3, e4⟩ := (oB_iff hn refers hx d1).mp d2
    have e5 : gB (tB n refers) e d = false := by
      cases w : gB (tB n refers) e d
      · rfl
      · rw [gB_tr (tB_tr hn refers) hx e1 d1 e2 w] at e4; cases e4
    have := h4 e d e1 d1 (Or.inl e1) e3 e5 (by omega)
    rw [h2.1 x e hx e1 e2]
    exact this
theorem climb7 {n : Nat} (hn : n ≤ 6) {refers s G U0 : Nat → Int32} (hs : ∀ c, c < n → s (29 + c) = refers c) (hG : ∀ c, c < n → G c = LG n refers c) {c : Nat} (hc : c < n) : f_X7_climb s G U0 n c = nI (RH n refers c) := by
  have h0 : CP n refers 0 0 0 (itr bd_X7_climb_2 n U0) := ⟨fun _ => 0, fun a ha => (copies_at (f := fun _ => 0) (fun _ _ => rfl) n a).trans (if_pos ha), ⟨fun _ _ _ _ _ => rfl, fun _ _ => Nat.zero_le _⟩, fun x hx hm => absurd (mu_pos (t := tB n refers) hx) (by unfold muB at hm; omega), fun _ _ _ _ hp => absurd hp (by omega)⟩
  obtain ⟨f, h1, h2, h3, -⟩ := itr_inv (b := bd_X7_climb_27 s G n) (P := fun k y => CP n refers k 0 0 y) h0 (n := 7) (fun k y _ ih => climb_round hn hs hG ih)
  have e : f c = RH n refers c := Nat.le_antisymm (h2.2 c hc) (h3 c hc (Nat.le_trans (mu_le _ n c) (by omega)))
  unfold f_X7_climb
  rw [h1 c hc, e]
