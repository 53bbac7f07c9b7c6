/-! the ladder's places: each contract stands on one of them -/
def LF (n : Nat) (refers : Nat → Int32) (k : Nat) : Nat := (LL n refers).getD k 0
def LM (n : Nat) (refers : Nat → Int32) : Nat := (LL n refers).length
theorem LM_le (n : Nat) (refers : Nat → Int32) : LM n refers ≤ n := OI_len (OI_LL n refers)
theorem LF_get {n : Nat} {refers : Nat → Int32} {k : Nat} (hk : k < LM n refers) : LF n refers k = (LL n refers)[k]'hk := by
  unfold LF
  rw [List.getD_eq_getElem?_getD, List.getElem?_eq_getElem hk]; rfl
theorem LF_in {n : Nat} {refers : Nat → Int32} {k : Nat} (hk : k < LM n refers) : LF n refers k < n ∧ leadB n refers (LF n refers k) = true := by
  have h := (OI_LL n refers).1 _ (List.getElem_mem hk)
  rw [LF_get hk]
  exact ⟨h.1, h.2.1⟩
theorem LF_lt {n : Nat} {refers : Nat → Int32} {j k : Nat} (hk : k < LM n refers) (hj : j < k) : RH n refers (LF n refers j) < RH n refers (LF n refers k) ∨ (RH n refers (LF n refers j) = RH n refers (LF n refers k) ∧ LF n refers j < LF n refers k) := by
  have h := List.pairwise_iff_getElem.mp (OI_LL n refers).2.1 j k (Nat.lt_trans hj hk) hk hj
  rw [LF_get hk, LF_get (Nat.lt_trans hj hk)]
  exact h
theorem LF_on {n : Nat} (hn : n ≤ 6) {refers : Nat → Int32} {c : Nat} (hc : c < n) (hl : leadB n refers c = true) : ∃ k, k < LM n refers ∧ LF n refers k = c := by
  have h := (OI_LL n refers).2.2 c hc hl (Or.inl (RH_lt hn refers hc))
  obtain ⟨k, hk, e⟩ := List.getElem_of_mem h
  exact ⟨k, hk, by rw [LF_get hk]; exact e⟩
theorem lead_one {n : Nat} (hn : n ≤ 6) {refers : Nat → Int32} {a b : Nat} (ha : a < n) (hb : b < n) (la : leadB n refers a = true) (lb : leadB n refers b = true) (h : gB (tB n refers) a b = true) : a = b := by
  rcases Nat.lt_trichotomy a b with q | q | q
  · have := (lead_iff hn refers hb).mp lb a q
    rw [gB_sy h] at this; cases this
  · exact q
  · have := (lead_iff hn refers ha).mp la b q
    rw [h] at this; cases this
theorem lead_ex {n : Nat} (hn : n ≤ 6) (refers : Nat → Int32) {c : Nat} (hc : c < n) : ∃ a, a < n ∧ leadB n refers a = true ∧ gB (tB n refers) a c = true := by
  obtain ⟨a, ⟨h1, h2⟩, h3⟩ := pk_least (fun a => a < n ∧ gB (tB n refers) c a = true) ⟨c, hc, gB_rf _ c⟩
  refine ⟨a, h1, (lead_iff hn refers h1).mpr (fun d hd => ?_), gB_sy h2⟩
  cases q : gB (tB n refers) a d
  · rfl
  · exact absurd ⟨by omega, gB_tr (tB_tr hn refers) hc h1 (by omega) h2 q⟩ (h3 d hd)
/-- the place of a contract's ring -/
theorem ix_ex {n : Nat} (hn : n ≤ 6) (refers : Nat → Int32) {c : Nat} (hc : c < n) : ∃ k, k < LM n refers ∧ gB (tB n refers) (LF n refers k) c = true := by
  obtain ⟨a, h1, h2, h3⟩ := lead_ex hn refers hc
  obtain ⟨k, hk, e⟩ := LF_on hn h1 h2
  exact ⟨k, hk, by rw [e]; exact h3⟩
theorem ix_one {n : Nat} (hn : n ≤ 6) {refers : Nat → Int32} {j k c : Nat} (hj : j < LM n refers) (hk : k < LM n refers) (hc : c < n) (h1 : gB (tB n refers) (LF n refers j) c = true) (h2 : gB (tB n refers) (LF n refers k) c = true) : j = k := by
  obtain ⟨j1, j2⟩ := LF_in hj
  obtain ⟨k1, k2⟩ := LF_in hk
  have e := lead_one hn j1 k1 j2 k2 (gB_tr (tB_tr hn refers) j1 hc k1 h1 (gB_sy h2))
  rcases Nat.lt_trichotomy j k with q | q | q
  · have := LF_lt hk q; rw [e] at this; omega
  · exact q
  · have := LF_lt hj q; rw [e] at this; omega
theorem RH_ring {n : Nat} (hn : n ≤ 6) {refers : Nat → Int32} {a c : Nat} (ha : a < n) (hc : c < n) (h : gB (tB n refers) a c = true) : RH n refers a = RH n refers c := by
  rw [RH_eq hn refers ha, RH_eq hn refers hc]
  refine supF_cong (fun d hd => bool_ext ?_) (fun _ _ _ => rfl)
  rw [oB_iff hn refers ha hd, oB_iff hn refers hc hd]
  exact ⟨o_ring (tB_tr hn refers) ha hc hd h, o_ring (tB_tr hn refers) hc ha hd (gB_sy h)⟩
/-- to which one refers beyond its ring, stands ahead -/
theorem ahead {n : Nat} (hn : n ≤ 6) {refers : Nat → Int32} {c d j k : Nat} (hc : c < n) (hd : d < n) (hj : j < LM n refers) (hk : k < LM n refers) (hjd : gB (tB n refers) (LF n refers j) d = true) (hkc : gB (tB n refers) (LF n refers k) c = true) (hr : bt (refers c) d = true) (hg : gB (tB n refers) c d = false) : j < k := by
  have h1 : RH n refers d < RH n refers c := by
    rw [RH_eq hn refers hc]
    exact supF_ge (f := RH n refers) hd ((oB_iff hn refers hc hd).mpr ⟨c, hc, gB_rf _ c, hr, hg⟩)
  have e1 := RH_ring hn (LF_in hj).1 hd hjd
  have e2 := RH_ring hn (LF_in hk).1 hc hkc
  rcases Nat.lt_trichotomy j k with q | q | q
  · exact q
  · subst q; omega
  · have := LF_lt hj q; omega
/-- what the class has built -/
def BLD (n : Nat) (refers : Nat → Int32) (reach G U ringOf first bits rung : Nat → Int32) (m : Nat) : Prop :=
  m = LM n refers ∧ (∀ c, c < n → reach c = LT n refers c ∧ G c = LG n refers c ∧ U c = nI (RH n refers c)) ∧ (∀ k, k < m → first k = nI (LF n refers k) ∧ bits k = LG n refers (LF n refers k) ∧ rung k = nI (RH n refers (LF n refers k))) ∧ ∀ c, c < n → ∀ k, k < m → gB (tB n refers) (LF n refers k) c = true → ringOf c = nI k
theorem ringOf_in {n : Nat} (hn : n ≤ 6) {refers : Nat → Int32} {z : Nat × (Nat → Int32) × (Nat → Int32) × (Nat → Int32)} (hz : OC n refers z (LL n refers)) (w : Nat → Int32) : ∀ c, c < n → ∀ k, k < z.1 → gB (tB n refers) (LF n refers k) c = true → itr (bd_X0_orderRings_134 n z) z.1 w c = nI k := by
  have hm : z.1 = LM n refers := hz.1
  have inner : ∀ k, k < z.1 → ∀ y c, c < n → itr (bd_X0_orderRings_144 k z) n y c = if gB (tB n refers) (LF n refers k) c = true then nI k else y c := by
    intro k hk y c hc
    have hb : z.2.2.1 k = LG n refers (LF n refers k) := (hz.2 k (by rw [← hz.1]; exact hk)).2.1
    have hF := (LF_in (n := n) (refers := refers) (k := k) (by omega)).1
    have key : ∀ m, m ≤ n → ∀ c, c < n → itr (bd_X0_orderRings_144 k z) m y c = if c < m ∧ gB (tB n refers) (LF n refers k) c = true then nI k else y c := by
      intro m
      induction m with
      | zero => intro _ c _; rw [if_neg (fun q => absurd q.1 (Nat.not_lt_zero c))]; exact Eq.refl (y c)
      | succ m ih =>
        intro hm2 c hc
        rw [itr_succ]
        have ih := ih (by omega) c hc
        generalize itr (bd_X0_orderRings_144 k z) m y = v at ih ⊢
        have hbit := LG_bit hn refers hF (d := m) (by omega)
        unfold bd_X0_orderRings_144
        rw [hb]
        by_cases g : gB (tB n refers) (LF n refers k) m = true
        · rw [if_neg (fun q => by rw [(has6_0 (by omega)).mp q, g] at hbit; cases hbit)]
          by_cases e : c = m
          · subst e; rw [pk_us, if_pos ⟨by omega, g⟩]
          · rw [pk_un e, ih]
            by_cases w2 : c < m ∧ gB (tB n refers) (LF n refers k) c = true
            · rw [if_pos w2, if_pos ⟨by omega, w2.2⟩]
            · rw [if_neg w2, if_neg (fun q => w2 ⟨by omega, q.2⟩)]
        · have g0 : gB (tB n refers) (LF n refers k) m = false := by cases hx : gB (tB n refers) (LF n refers k) m <;> first | rfl | exact absurd hx g
          rw [if_pos ((has6_0 (by omega)).mpr (hbit.trans g0)), ih]
          by_cases w2 : c < m ∧ gB (tB n refers) (LF n refers k) c = true
          · rw [if_pos w2, if_pos ⟨by omega, w2.2⟩]
          · have w3 : ¬ (c < m + 1 ∧ gB (tB n refers) (LF n refers k) c = true) := by
              intro q
              by_cases e : c = m
              · subst e; rw [g0] at q; cases q.2
              · exact w2 ⟨by omega, q.2⟩
            rw [if_neg w2, if_neg w3]
    rw [key n (Nat.le_refl n) c hc]
    by_cases g : gB (tB n refers) (LF n refers k) c = true
    · rw [if_pos ⟨hc, g⟩, if_pos g]
    · rw [if_neg (fun q => g q.2), if_neg g]
  intro c hc
  refine itr_inv (b := bd_X0_orderRings_134 n z) (P := fun j y => ∀ k, k < j → gB (tB n refers) (LF n refers k) c = true → y c = nI k) (fun k hk => absurd hk (Nat.not_lt_zero k)) (n := z.1) (fun j y hj ih k hk hg => ?_)
  show itr (bd_X0_orderRings_144 j z) n y c = nI k
  rw [inner j hj y c hc]
  by_cases g : gB (tB n refers) (LF n refers j) c = true
  · rw [if_pos g, ix_one hn (by omega) (by omega) hc g hg]
  · rw [if_neg g]
    refine ih k ?_ hg
    rcases Nat.lt_or_ge k j with q | q
    · exact q
    · have : k = j := by omega
      subst this; exact absurd hg g
theorem build6 {n : Nat} (hn : n ≤ 6) (a b d e f g h refers : Nat → Int32) : BLD n refers (f_X0_build a b d e f g h refers n).1 (f_X0_build a b d e f g h refers n).2.1 (f_X0_build a b d e f g h refers n).2.2.1 (f_X0_build a b d e f g h refers n).2.2.2.1 (f_X0_build a b d e f g h refers n).2.2.2.2.1 (f_X0_build a b d e f g h refers n).2.2.2.2.2.1 (f_X0_build a b d e f g h refers n).2.2.2.2.2.2.1 (f_X0_build a b d e f g h refers n).2.2.2.2.2.2.2 := by
  have hT : ∀ c, c < n → f_X0_findReach a refers n c = LT n refers c := fun c hc => reach6 hn hc
  have hG : ∀ c, c < n → f_X0_findRings (f_X0_findReach a refers n) b n c = LG n refers c := fun c hc => rings6 hn hT hc
  have hU : ∀ c, c < n → f_X0_findRungs (f_X0_findRings (f_X0_findReach a refers n) b n) d refers n c = nI (RH n refers c) := fun c hc => rungs6 hn hG hc
  have hO := OC_all hn hG hU f g h
  unfold f_X0_build f_X0_orderRings
  dsimp only
  generalize f_X0_findRungs (f_X0_findRings (f_X0_findReach a refers n) b n) d refers n = U at hU hO ⊢
  generalize f_X0_findRings (f_X0_findReach a refers n) b n = G at hG hO ⊢
  generalize f_X0_findReach a refers n = T at hT ⊢
  have hR := ringOf_in hn hO e
  generalize itr (bd_X0_orderRings_7 G U n) n (0, f, g, h) = z at hO hR ⊢
  exact ⟨hO.1, fun c hc => ⟨hT c hc, hG c hc, hU c hc⟩, fun k hk => hO.2 k (by rw [← hO.1]; exact hk), hR⟩
theorem bld_ro {n : Nat} (hn : n ≤ 6) {refers reach G U ringOf first bits rung : Nat → Int32} {m : Nat} (h : BLD n refers reach G U ringOf first bits rung m) : ∀ c, c < n → ringOf c = nI (ringOf c).toNatClampNeg ∧ (ringOf c).toNatClampNeg < 6 := by
  intro c hc
  obtain ⟨k, hk, hg⟩ := ix_ex hn refers hc
  have hl := LM_le n refers
  rw [h.2.2.2 c hc k (by rw [h.1]; exact hk) hg, nI_clamp (by omega)]
  exact ⟨rfl, by omega⟩
