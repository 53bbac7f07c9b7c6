/-! why: alike -/
theorem spz_why {n lo : Nat} {kind limit ret quo refers : Nat → Int32} {q1 q2 q3 : Nat} {a1 b1 a2 b2 a3 b3 s : Nat → Int32} (h : TD n lo kind limit ret quo refers q1 q2 q3 a1 b1 a2 b2 a3 b3 s) {z : ZT} {w : WT} (hS : SPZ n lo refers z w) {i : Nat} (hi : i < n) (whys : Nat → Int32) :
    f_X7_tellsWhy s w.2.2.2.1 w.2.2.2.2.2.1 w.2.2.2.2.2.2.1 w.2.2.2.2.2.2.2.1 whys n i (f_X7_rungAt w.2.2.2.1 w.2.2.2.2.1 i).toNatClampNeg 0 = f_X0_reason z.2.1 z.2.2.2.2.2.1 z.2.2.2.2.2.2.2.2.2.1 kind limit ret quo refers n i (fun k => (z.2.2.2.1 k).toNatClampNeg) ∧
    f_X7_tellsWhy s w.2.2.2.1 w.2.2.2.2.2.1 w.2.2.2.2.2.2.1 w.2.2.2.2.2.2.2.1 whys n i (f_X7_rungAt w.2.2.2.1 w.2.2.2.2.1 i).toNatClampNeg 1 = f_X0_cause z.2.1 z.2.2.2.2.2.1 z.2.2.2.2.2.2.2.1 z.2.2.2.2.2.2.2.2.2.1 kind limit quo refers (f_X0_reason z.2.1 z.2.2.2.2.2.1 z.2.2.2.2.2.2.2.2.2.1 kind limit ret quo refers n i (fun k => (z.2.2.2.1 k).toNatClampNeg)) n i (fun k => (z.2.2.2.1 k).toNatClampNeg) ∧
    f_X7_tellsWhy s w.2.2.2.1 w.2.2.2.2.2.1 w.2.2.2.2.2.2.1 w.2.2.2.2.2.2.2.1 whys n i (f_X7_rungAt w.2.2.2.1 w.2.2.2.2.1 i).toNatClampNeg 2 = f_X0_causeBehind z.2.1 z.2.2.2.2.2.1 z.2.2.2.2.2.2.2.1 z.2.2.2.2.2.2.2.2.2.1 z.2.2.2.2.2.2.2.2.2.2.1 kind limit ret quo refers (f_X0_reason z.2.1 z.2.2.2.2.2.1 z.2.2.2.2.2.2.2.2.2.1 kind limit ret quo refers n i (fun k => (z.2.2.2.1 k).toNatClampNeg)) n i (fun k => (z.2.2.2.1 k).toNatClampNeg) := by
  have hn := h.1.1
  obtain ⟨hB, hM, hP⟩ := hS
  obtain ⟨k, hk, hg⟩ := ix_ex hn refers hi
  have hl := LF_in hk
  have hr := rungAt7 hn hM hi (by rw [hM.1]; exact hk) hg
  obtain ⟨b1, b2, b3, b4⟩ := hB
  obtain ⟨m1, m2, m3⟩ := hM
  have hkm : k < z.2.2.2.2.2.2.2.2.2.2.2.1 := by rw [b1]; exact hk
  have ho := b4 i hi k hkm hg
  have hk6 : k < 100 := by have := LM_le n refers; omega
  rw [hr, nI_clamp (show k < 2 ^ 31 by omega)]
  have hro : (fun k => (z.2.2.2.1 k).toNatClampNeg) i = k := by
    show (z.2.2.2.1 i).toNatClampNeg = k
    rw [ho, nI_clamp (show k < 2 ^ 31 by omega)]
  obtain ⟨L, pd, lf, rp, -, -, -, -, e5, e6, e7, e8⟩ := hP
  obtain ⟨g1, g2, g3, g4, g5, -⟩ := e5 k hk
  obtain ⟨s1, s2, s3, s4, s5⟩ := h.2.1 i hi
  have hbk : ∀ j, j < k → z.2.2.2.2.2.2.2.1 j = w.2.2.2.1 j := fun j hj => ((b3 j (by omega)).2.1).trans (m3 j (by omega)).symm
  have hrk : w.2.2.2.1 k = z.2.1 i := by
    rw [m3 k (by rw [m1]; exact hk), (b2 i hi).2.1]
    exact LG_ring hn hl.1 hi hg
  by_cases q : lf k = 0
  · refine whyA (lo := lo) (lf := lf k) (pd := pd) hn h.2.2.2.2.1 hi h.2.2.2.1 hbk g1 g2 g5 e6 (fun hlt => ?_) e8 hro q
    obtain ⟨a, c, a1, a2, a3, a4⟩ := e7 k hk hlt
    refine ⟨a, c, a1, a2, ?_, a4⟩
    rw [(b3 a (by omega)).2.1, LG_bit hn refers (LF_in (show a < LM n refers by omega)).1 a2]
    exact a3
  · refine whyB hi hn s1 s2 s3 s4 (g2.trans g1.symm) hrk (g4.trans g3.symm) (fun c hc => ((e6 c hc).2.1).trans (e6 c hc).1.symm) ?_ s5 hro ?_
    · have hbi : bt (z.2.1 i) i = true := by rw [(b2 i hi).2.1, LG_bit hn refers hi hi]; exact gB_rf _ _
      have ha := alone67 hn hi hbi (fun x hx => by rw [(b2 i hi).2.1]; exact LG_big hn refers hi hx)
      rw [hrk, ← ha]
      unfold f_X0_isAlone
      by_cases w1 : z.2.1 i = ((1 : Int32) <<< (nI i &&& 31))
      · rw [if_pos w1]; exact ⟨fun _ => by decide, fun _ => w1⟩
      · rw [if_neg w1]; exact ⟨fun x => absurd x w1, fun x => absurd rfl x⟩
    · rw [g1]
      exact fun x => q ((nI_eq (a := lf k) (b := 0) (by have := h.2.2.2.2.1; omega) (by omega)).mp x)
theorem e_why {n lo : Nat} {kind limit ret quo refers : Nat → Int32} {q1 q2 q3 : Nat} {a1 b1 a2 b2 a3 b3 s : Nat → Int32} (h : TD n lo kind limit ret quo refers q1 q2 q3 a1 b1 a2 b2 a3 b3 s) (r g u o M P F B R L RP a b d e P7 LO RQ mo wh : Nat → Int32) (x6 y6 x7 : Int32) (c k : Int32) (r6 r7 : Nat) : (f_X6_why kind limit ret quo refers (nI lo) r g u o M P F B R L RP x6 y6 c k n r6).1 = (f_X7_why s a b d e P7 LO RQ x7 mo wh c k n r7).1 := by
  have hS := settle_pay h r g u o M P F B R L RP a b d e P7 LO RQ mo
  have hn := h.1.1
  unfold f_X6_why f_X7_why
  generalize f_X0_settle r g u o M P F B R L RP kind limit ret quo refers (nI lo) n = z at hS ⊢
  generalize f_X7_pay s a b d e P7 LO RQ mo n = w at hS ⊢
  by_cases c1 : f_X7_isOne c n = 0
  · rw [if_pos ((one_iff (by omega)).mpr c1), if_pos c1]
  · rw [if_neg (fun q => c1 ((one_iff (by omega)).mp q)), if_neg c1]
    obtain ⟨i, hi, rfl⟩ := (isO_iff (by omega)).mp c1
    rw [nI_clamp (show i < 2 ^ 31 by omega)]
    obtain ⟨w0, w1, w2⟩ := spz_why h hS hi wh
    refine if1 (fun k0 => ?_) (fun _ => rfl)
    by_cases e0 : k = 0
    · subst e0
      rw [if_pos rfl, if_neg (by decide)]
      exact w0.symm
    by_cases e1 : k = 1
    · subst e1
      rw [if_neg e0, if_pos rfl, if_neg (by decide)]
      exact w1.symm
    by_cases e2 : k = 2
    · subst e2
      rw [if_neg e0, if_neg e1, if_pos rfl, if_neg (by decide)]
      exact w2.symm
    have h3 : (3 : Int32) ≤ k := by
      obtain ⟨x, hx, rfl⟩ := nI_of (x := k) (Int32.not_lt.mpr k0)
      have : x ≠ 0 := fun q => e0 (by rw [q]; rfl)
      have : x ≠ 1 := fun q => e1 (by rw [q]; rfl)
      have : x ≠ 2 := fun q => e2 (by rw [q]; rfl)
      exact (nI_leI (a := 3) (b := x) (by omega) hx).mpr (by omega)
    rw [if_neg e0, if_neg e1, if_neg e2, if_pos h3]
