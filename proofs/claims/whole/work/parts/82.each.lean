/-! read: alike -/
theorem dn_ite {x : Int32} {y : Nat → Int32} : ((if x < 0 then ((0 : Int32), y) else ((1 : Int32), y)).1 = 0 ↔ x < 0) ∧ (if x < 0 then ((0 : Int32), y) else ((1 : Int32), y)).2 = y := by
  by_cases c : x < 0
  · rw [if_pos c]; exact ⟨⟨fun _ => c, fun _ => rfl⟩, rfl⟩
  · rw [if_neg c]; exact ⟨⟨fun q => absurd (show (1 : Int32) = 0 from q) (by decide), fun q => absurd q c⟩, rfl⟩
theorem e_done {n lo : Nat} {kind limit ret quo refers : Nat → Int32} {q1 q2 q3 : Nat} {a1 b1 a2 b2 a3 b3 s : Nat → Int32} (h : TD n lo kind limit ret quo refers q1 q2 q3 a1 b1 a2 b2 a3 b3 s) {m k : Nat} {L N letters one two three : Nat → Int32} (hm : m ≤ 12) (hk : k < m) (hR : RWS m L N letters one two three) : ((f_X2_perform L N kind limit ret quo refers (nI lo) n k m).1 < 0 ↔ (f_X7_isDone s letters one two three n k).1 = 0) ∧ ∃ l2, (f_X2_perform L N kind limit ret quo refers (nI lo) n k m).2.2.2.2.2.2.2 = nI l2 ∧ TD (f_X2_perform L N kind limit ret quo refers (nI lo) n k m).2.2.2.2.2.2.1 l2 (f_X2_perform L N kind limit ret quo refers (nI lo) n k m).2.1 (f_X2_perform L N kind limit ret quo refers (nI lo) n k m).2.2.1 (f_X2_perform L N kind limit ret quo refers (nI lo) n k m).2.2.2.1 (f_X2_perform L N kind limit ret quo refers (nI lo) n k m).2.2.2.2.1 (f_X2_perform L N kind limit ret quo refers (nI lo) n k m).2.2.2.2.2.1 q1 q2 q3 a1 b1 a2 b2 a3 b3 (f_X7_isDone s letters one two three n k).2 := by
  obtain ⟨r1, r2, r3, r4, r5⟩ := hR k hk
  have k0 : ¬ nI k < (0 : Int32) := nI_pos (by omega)
  have k1 : nI k < nI m := (nI_ltI (by omega) (by omega)).mpr hk
  unfold f_X2_perform f_X7_isDone
  rw [if_neg k0, if_pos k1, ← r1, ← r3]
  rcases r2 with c | c | c | c | c
  · rw [if_pos c, if_pos c, ← r4 (by rw [c]; decide), ← r5 c]
    obtain ⟨e1, e2⟩ := e_contract h (N (k * 3)) (N (k * 3 + 1)) (N (k * 3 + 2))
    obtain ⟨d1, d2⟩ := dn_ite (x := (f_X7_contract s (N (k * 3)) (N (k * 3 + 1)) (N (k * 3 + 2)) n).1) (y := (f_X7_contract s (N (k * 3)) (N (k * 3 + 1)) (N (k * 3 + 2)) n).2)
    rw [d1, d2, ← e1]
    exact ⟨Iff.rfl, lo, rfl, e2⟩
  · rw [if_neg (show ¬ L k = 99 by rw [c]; decide), if_pos c, if_neg (show ¬ L k = 99 by rw [c]; decide), if_neg (show ¬ L k = 110 by rw [c]; decide), if_neg (show ¬ L k = 113 by rw [c]; decide), if_neg (show ¬ L k = 114 by rw [c]; decide)]
    obtain ⟨e1, l2, e2, e3⟩ := e_loss h (N (k * 3))
    obtain ⟨d1, d2⟩ := dn_ite (x := (f_X7_loss s (N (k * 3))).1) (y := (f_X7_loss s (N (k * 3))).2)
    rw [d1, d2, ← e1]
    exact ⟨Iff.rfl, l2, e2, e3⟩
  · rw [if_neg (show ¬ L k = 99 by rw [c]; decide), if_neg (show ¬ L k = 108 by rw [c]; decide), if_pos c, if_neg (show ¬ L k = 99 by rw [c]; decide), if_pos c, ← r4 (by rw [c]; decide)]
    obtain ⟨e1, e2⟩ := e_refer h (N (k * 3)) (N (k * 3 + 1)) 0
    obtain ⟨d1, d2⟩ := dn_ite (x := (f_X7_refer s (N (k * 3)) (N (k * 3 + 1)) 0 n).1) (y := (f_X7_refer s (N (k * 3)) (N (k * 3 + 1)) 0 n).2)
    rw [d1, d2, ← e1]
    exact ⟨Iff.rfl, lo, rfl, e2⟩
  · rw [if_neg (show ¬ L k = 99 by rw [c]; decide), if_neg (show ¬ L k = 108 by rw [c]; decide), if_neg (show ¬ L k = 110 by rw [c]; decide), if_pos c, if_neg (show ¬ L k = 99 by rw [c]; decide), if_neg (show ¬ L k = 110 by rw [c]; decide), if_pos c, ← r4 (by rw [c]; decide)]
    obtain ⟨e1, e2⟩ := e_renew h (N (k * 3)) 3 (N (k * 3 + 1))
    obtain ⟨d1, d2⟩ := dn_ite (x := (f_X7_renew s (N (k * 3)) 3 (N (k * 3 + 1)) n).1) (y := (f_X7_renew s (N (k * 3)) 3 (N (k * 3 + 1)) n).2)
    rw [d1, d2, ← e1]
    exact ⟨Iff.rfl, lo, rfl, e2⟩
  · rw [if_neg (show ¬ L k = 99 by rw [c]; decide), if_neg (show ¬ L k = 108 by rw [c]; decide), if_neg (show ¬ L k = 110 by rw [c]; decide), if_neg (show ¬ L k = 113 by rw [c]; decide), if_pos c, if_neg (show ¬ L k = 99 by rw [c]; decide), if_neg (show ¬ L k = 110 by rw [c]; decide), if_neg (show ¬ L k = 113 by rw [c]; decide), if_pos c, ← r4 (by rw [c]; decide)]
    obtain ⟨e1, e2⟩ := e_refer h (N (k * 3)) (N (k * 3 + 1)) 1
    obtain ⟨d1, d2⟩ := dn_ite (x := (f_X7_refer s (N (k * 3)) (N (k * 3 + 1)) 1 n).1) (y := (f_X7_refer s (N (k * 3)) (N (k * 3 + 1)) 1 n).2)
    rw [d1, d2, ← e1]
    exact ⟨Iff.rfl, lo, rfl, e2⟩
theorem e_read {n lo : Nat} {kind limit ret quo refers : Nat → Int32} {q1 q2 q3 : Nat} {a1 b1 a2 b2 a3 b3 s : Nat → Int32} (h : TD n lo kind limit ret quo refers q1 q2 q3 a1 b1 a2 b2 a3 b3 s) {ln : Nat} {t u : Nat → Int32} (hT : TX ln t u) (Lx Nx letters one two three : Nat → Int32) : (f_X6_read kind limit ret quo refers (nI lo) t Lx Nx n ln).1 = (f_X7_read s u letters one two three ln).1 ∧ (f_X6_read kind limit ret quo refers (nI lo) t Lx Nx n ln).2.2.2.2.2.2.2.2.2.2.1 = 0 ∧ (f_X7_read s u letters one two three ln).2.2.1 = 0 ∧ ∃ l2, (f_X6_read kind limit ret quo refers (nI lo) t Lx Nx n ln).2.2.2.2.2.2.2.1 = nI l2 ∧ TD (f_X6_read kind limit ret quo refers (nI lo) t Lx Nx n ln).2.2.2.2.2.2.1 l2 (f_X6_read kind limit ret quo refers (nI lo) t Lx Nx n ln).2.1 (f_X6_read kind limit ret quo refers (nI lo) t Lx Nx n ln).2.2.1 (f_X6_read kind limit ret quo refers (nI lo) t Lx Nx n ln).2.2.2.1 (f_X6_read kind limit ret quo refers (nI lo) t Lx Nx n ln).2.2.2.2.1 (f_X6_read kind limit ret quo refers (nI lo) t Lx Nx n ln).2.2.2.2.2.1 q1 q2 q3 a1 b1 a2 b2 a3 b3 (f_X7_read s u letters one two three ln).2.1 := by
  have hl := hT.1
  obtain ⟨r, M, g1, g2, g3⟩ := parse67 hT (Lx, Nx, 0, 0) 12 0 Lx Nx letters one two three 0 14 (by omega) (by omega) rfl (by omega) (fun k hk => absurd hk (Nat.not_lt_zero k)) (by omega)
  have hp : f_X2_parse t Lx Nx ln = r := by
    unfold f_X2_parse
    rw [g1]
  unfold f_X6_read f_X7_read f_X2_clear
  rw [hp, g2]
  dsimp only [Option.getD_some]
  rcases g3 with ⟨p1, p2, p3, p4, p5, p6⟩ | ⟨p, p1, p2, p3, p4⟩
  · rw [if_pos p1, if_pos p2, if_pos (show nI ln ≤ nI M.1 by rw [p3]; exact Int32.le_refl _), p4]
    have key := itr2_inv (b := bd_X6_read_30 r.2) (c := bd_X7_read_112 M) (x := ((0 : Int32), kind, limit, ret, quo, refers, n, nI lo)) (y := ((0 : Int32), s)) (P := fun _ z w => z.1 = w.1 ∧ ∃ l2, z.2.2.2.2.2.2.2 = nI l2 ∧ TD z.2.2.2.2.2.2.1 l2 z.2.1 z.2.2.1 z.2.2.2.1 z.2.2.2.2.1 z.2.2.2.2.2.1 q1 q2 q3 a1 b1 a2 b2 a3 b3 w.2) ⟨rfl, lo, rfl, h⟩ (n := M.2.2.1) (fun k z w hk hz => by
      obtain ⟨z1, l2, z2, z3⟩ := hz
      have hw0 : (w.2 0).toNatClampNeg = z.2.2.2.2.2.2.1 := by
        rw [z3.2.2.1, nI_clamp (by have := z3.1.1; omega)]
      obtain ⟨d1, l3, d2, d3⟩ := e_done z3 p5 hk p6
      unfold bd_X6_read_30 bd_X7_read_112
      rw [z2, hw0, p4]
      by_cases c : (f_X2_perform r.2.1 r.2.2.1 z.2.1 z.2.2.1 z.2.2.2.1 z.2.2.2.2.1 z.2.2.2.2.2.1 (nI l2) z.2.2.2.2.2.2.1 k M.2.2.1).1 < 0
      · rw [if_pos c, if_pos (d1.mp c)]
        exact ⟨z1, l3, d2, d3⟩
      · rw [if_neg c, if_neg (fun q => c (d1.mpr q))]
        exact ⟨by show z.1 + 1 = w.1 + 1; rw [z1], l3, d2, d3⟩)
    obtain ⟨k1, l2, k2, k3⟩ := key
    exact ⟨k1, rfl, rfl, l2, k2, k3⟩
  · have n5 : ¬ r.1 = -5 := by
      rw [p1]
      intro q
      have := congrArg Int32.toInt q
      rw [nI_toInt (by omega)] at this
      have e5 : (-5 : Int32).toInt = -5 := by decide
      omega
    have hv : (-10 : Int32) - r.1 = -10 - nI M.1 := by rw [p1, p3]
    rw [if_neg n5]
    by_cases c : M.2.1 = 0
    · rw [if_pos c, if_neg (show ¬ nI ln ≤ nI M.1 from fun q => by
        rw [p3] at q
        have := (nI_leI (a := ln) (b := p) (by omega) (by omega)).mp q
        have := p4 c
        omega)]
      exact ⟨hv, rfl, rfl, lo, rfl, h⟩
    · rw [if_neg c]
      exact ⟨hv, rfl, rfl, lo, rfl, h⟩
