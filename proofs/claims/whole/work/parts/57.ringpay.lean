/-! a ring of one pays alike on both sides -/
theorem moN_leL {kd li re qu L : Nat} (hq : qu ≤ 100) : moN kd li re qu L ≤ L := by
  have h1 := shN_le (kd := kd) (L := L) hq
  unfold moN
  by_cases k : kd = 3
  · rw [if_pos k]; split <;> (try split) <;> omega
  · rw [if_neg k]; split <;> (try split) <;> omega
theorem sm_one {p : Nat → Bool} {h : Nat → Nat} {f : Nat} : ∀ m, (∀ c, c < m → (p c = true ↔ c = f)) → smB p h m = if f < m then h f else 0
  | 0, _ => by rw [if_neg (Nat.not_lt_zero f)]; rfl
  | m + 1, hp => by
    rw [smB_succ, sm_one m (fun c hc => hp c (by omega))]
    have hm := hp m (by omega)
    by_cases e : m = f
    · rw [if_pos (hm.mpr e), if_neg (show ¬ f < m by omega), if_pos (show f < m + 1 by omega), e, Nat.zero_add]
    · rw [if_neg (fun q => e (hm.mp q)), Nat.add_zero]
      by_cases g : f < m
      · rw [if_pos g, if_pos (show f < m + 1 by omega)]
      · rw [if_neg g, if_neg (show ¬ f < m + 1 by omega)]
theorem z25_skip {s : Nat → Int32} {left v20 B : Int32} {n : Nat} {z0 : (Nat → Int32) × (Nat → Int32)} : ∀ j, j ≤ 6 → (∀ c, c < j → bt B c = false) → itr (bd_X7_payRing_25 s left n v20 B) j z0 = z0
  | 0, _, _ => rfl
  | j + 1, hj, h => by
    rw [itr_succ, z25_skip j (by omega) (fun c hc => h c (by omega))]
    unfold bd_X7_payRing_25
    rw [if_pos ((has7_0 (by omega)).mpr (h j (by omega)))]
theorem z25_one {s : Nat → Int32} {left B : Int32} {n f : Nat} {mo P : Nat → Int32} (hb : ∀ c, c < n → (bt B c = true ↔ c = f)) : ∀ j, j ≤ 6 → j ≤ n → f < j → itr (bd_X7_payRing_25 s left n 1 B) j (mo, P) = (upd mo f (f_X7_most s P left 1 n f), upd P f (f_X7_most s P left 1 n f))
  | 0, _, _, hf => absurd hf (Nat.not_lt_zero f)
  | j + 1, hj, hjn, hf => by
    rw [itr_succ]
    by_cases e : j = f
    · subst e
      rw [z25_skip j (by omega) (fun c hc => by
        cases q : bt B c
        · rfl
        · have := (hb c (by omega)).mp q; omega)]
      unfold bd_X7_payRing_25
      rw [if_neg (fun q => by have := (has7_0 (show j < 32 by omega)).mp q; rw [(hb j (by omega)).mpr rfl] at this; cases this), if_neg (show ¬ (1 : Int32) = 0 by decide)]
      dsimp only
      rw [pk_us]
    · rw [z25_one hb j (by omega) (by omega) (by omega)]
      unfold bd_X7_payRing_25
      rw [if_pos ((has7_0 (show j < 32 by omega)).mpr (by
        cases q : bt B j
        · rfl
        · exact absurd ((hb j (by omega)).mp q) e))]
theorem ring_alone {n : Nat} (hn : n ≤ 6) {s kind limit ret quo refers : Nat → Int32} {kd li re qu : Nat → Nat} (h : SV n kind limit ret quo kd li re qu) (hs : SM n s kind limit ret quo refers) {B : Int32} {p : Nat → Bool} (hB : ∀ c, c < n → bt B c = p c) {L : Nat} (hL : L < 1000) {rings P6 P7 mo G : Nat → Int32} {k f : Nat} (hf : f < n) (hk : rings k = B) (hG : G f = B) (hal : B = ((1 : Int32) <<< (nI f &&& 31))) (hbit : f_X7_bits B = 1) (hag : ∀ d, d < n → bt (refers f) d = true → P6 d = P7 d) : RPAY n p L P6 P7 (f_X0_payAlone G P6 kind limit ret quo refers (nI L) n f).2 (f_X7_payRing s rings P7 mo (nI L) n k).1 (f_X0_payAlone G P6 kind limit ret quo refers (nI L) n f).1 := by
  obtain ⟨h1, h2, h3, h4, h5, h6, h7, h8⟩ := h f hf
  have hb := alone_one hn hf hal
  have hpf : ∀ c, c < n → (p c = true ↔ c = f) := fun c hc => by rw [← hB c hc]; exact hb c hc
  have hno := payer_no hn (s := s) (hs f hf).2.2.2.2 hag
  -- the reference
  have e7 : (f_X7_payRing s rings P7 mo (nI L) n k).1 = upd P7 f (f_X7_most s P7 (nI L) 1 n f) := by
    unfold f_X7_payRing
    rw [hk, if_pos hbit, if_neg (show ¬ (1 : Int32) = 0 by decide), z25_one hb n hn (Nat.le_refl n) hf]
    exact wl_off (n := n) (B := B) (x := 0) (Z := (upd mo f (f_X7_most s P7 (nI L) 1 n f), upd P7 f (f_X7_most s P7 (nI L) 1 n f))) (P := upd P7 f (f_X7_most s P7 (nI L) 1 n f))
  -- the class
  have e6 : (f_X0_payAlone G P6 kind limit ret quo refers (nI L) n f) = ((if kd f = 2 ∧ ¬ f_X7_payer s P7 n f = -1 then 0 else nI (moN (kd f) (li f) (re f) (qu f) L)), upd P6 f (if kd f = 2 ∧ ¬ f_X7_payer s P7 n f = -1 then 0 else nI (moN (kd f) (li f) (re f) (qu f) L))) := by
    unfold f_X0_payAlone f_X0_isEscaped f_X0_isAlone
    rw [hG, if_pos hal, h1, most6 h hf hL]
    by_cases k2 : kd f = 2
    · rw [if_pos (show nI (kd f) = (2 : Int32) by rw [k2]; rfl), if_neg (show ¬ (1 : Int32) = 0 by decide)]
      by_cases w : f_X7_payer s P7 n f = -1
      · rw [if_pos (hno.mpr w), if_pos rfl, if_neg (show ¬ (kd f = 2 ∧ ¬ f_X7_payer s P7 n f = -1) from fun q => q.2 w), pk_us]
      · rw [if_neg (fun q => w (hno.mp q)), if_neg (show ¬ (1 : Int32) = 0 by decide), if_pos (show kd f = 2 ∧ ¬ f_X7_payer s P7 n f = -1 from ⟨k2, w⟩), pk_us]
    · rw [if_neg (ne2 h2 k2), if_pos rfl, if_neg (show ¬ (kd f = 2 ∧ ¬ f_X7_payer s P7 n f = -1) from fun q => k2 q.1), pk_us]
  have e8 : f_X7_most s P7 (nI L) 1 n f = (if kd f = 2 ∧ ¬ f_X7_payer s P7 n f = -1 then 0 else nI (moN (kd f) (li f) (re f) (qu f) L)) := by
    rw [most7 h hs hf hL]
    by_cases w : kd f = 2 ∧ ¬ f_X7_payer s P7 n f = -1
    · rw [if_pos w, if_pos (show ¬ (1 : Int32) = 0 ∧ kd f = 2 ∧ ¬ f_X7_payer s P7 n f = -1 from ⟨by decide, w⟩)]
    · rw [if_neg w, if_neg (show ¬ (¬ (1 : Int32) = 0 ∧ kd f = 2 ∧ ¬ f_X7_payer s P7 n f = -1) from fun q => w q.2)]
  rw [e6, e7, e8]
  have e9 : (if kd f = 2 ∧ ¬ f_X7_payer s P7 n f = -1 then (0 : Int32) else nI (moN (kd f) (li f) (re f) (qu f) L)) = nI (if kd f = 2 ∧ ¬ f_X7_payer s P7 n f = -1 then 0 else moN (kd f) (li f) (re f) (qu f) L) := by
    by_cases w : kd f = 2 ∧ ¬ f_X7_payer s P7 n f = -1
    · rw [if_pos w, if_pos w]; rfl
    · rw [if_neg w, if_neg w]
  rw [e9]
  have hX : (if kd f = 2 ∧ ¬ f_X7_payer s P7 n f = -1 then 0 else moN (kd f) (li f) (re f) (qu f) L) ≤ moN (kd f) (li f) (re f) (qu f) L := by split <;> omega
  have hX1 := moN_leL (kd := kd f) (li := li f) (re := re f) (L := L) h8
  have hX2 := moN_le (kd := kd f) (li := li f) (re := re f) (qu := qu f) (L := L)
  have hX3 : L = 0 → moN (kd f) (li f) (re f) (qu f) L = 0 := fun q => by rw [q]; exact moN_0
  generalize (if kd f = 2 ∧ ¬ f_X7_payer s P7 n f = -1 then 0 else moN (kd f) (li f) (re f) (qu f) L) = X at hX ⊢
  refine ⟨X, fun _ => X, rfl, by omega, ?_, fun c hc hp => ?_, fun c hc hp => ?_, fun q => by have := hX3 q; omega⟩
  · rw [sm_one n hpf, if_pos hf]
  · have e := (hpf c hc).mp hp
    subst e
    show upd P6 c (nI X) c = nI X ∧ upd P7 c (nI X) c = nI X ∧ X ≤ 99
    rw [pk_us, pk_us]
    exact ⟨rfl, rfl, by omega⟩
  · have e : c ≠ f := fun q => by rw [(hpf c hc).mpr q] at hp; cases hp
    show upd P6 f (nI X) c = P6 c ∧ upd P7 f (nI X) c = P7 c
    rw [pk_un e, pk_un e]
    exact ⟨rfl, rfl⟩
