/-! the operations one by one: both programs answer alike, and Inv goes on -/
theorem op0 {N : Nat} (hN : 8000 < N) : zop0 N Inv := by
  intro vi fa wi ga x1 hI
  obtain ⟨w, r, n, q, kd, se, gw, st, rk, re, rw, rg, pa, pb, t, e2, e3, e4, e5, m0, m1, m2, m3, c1, c7, hT, hT', hR, hR', hP, hP', hB, hC, hD, hE0, hE1, hE2, hE3, hE4, hF, hG, hH⟩ := hI
  obtain ⟨ht, hl⟩ := id hC
  rw [c1, c7]
  rcases out x1 (n := 256) (by omega) with (h | h) | ⟨j, hj, rfl⟩
  · exact br_f (nle h) (ref_X r4 (br_f (nle h) (no_M r4 ⟨rfl, w, r, n, q, kd, se, gw, st, rk, re, rw, rg, pa, pb, t, (by first | exact e2 | rfl), (by first | exact e3 | rfl), (by first | exact e4 | rfl), (by first | exact e5 | rfl), (by first | exact m0 | rfl), (by first | exact m1 | rfl), (by first | exact m2 | rfl), (by first | exact m3 | rfl), (by first | exact c1 | rfl), (by first | exact c7 | rfl), hT, hT', hR, hR', hP, hP', RF_up hB r4, hC, hD, hE0, hE1, hE2, hE3, hE4, hF, hG, hH⟩)))
  · have h0 : 0 ≤ x1 := by
      refine Int32.le_iff_toInt_le.mpr ?_
      have h1 := Int32.le_iff_toInt_le.mp h
      rw [nI_toInt (by omega)] at h1
      have h4 : (0 : Int32).toInt = 0 := by decide
      omega
    have h255 : 255 < x1 := by
      refine Int32.lt_iff_toInt_lt.mpr ?_
      have h1 := Int32.le_iff_toInt_le.mp h
      rw [nI_toInt (by omega)] at h1
      have h4 : (255 : Int32).toInt = 255 := by decide
      omega
    exact br_t h0 (br_t h255 (ref_X r6 (br_t h0 (br_t h255 (no_M r6 ⟨rfl, w, r, n, q, kd, se, gw, st, rk, re, rw, rg, pa, pb, t, (by first | exact e2 | rfl), (by first | exact e3 | rfl), (by first | exact e4 | rfl), (by first | exact e5 | rfl), (by first | exact m0 | rfl), (by first | exact m1 | rfl), (by first | exact m2 | rfl), (by first | exact m3 | rfl), (by first | exact c1 | rfl), (by first | exact c7 | rfl), hT, hT', hR, hR', hP, hP', RF_up hB r6, hC, hD, hE0, hE1, hE2, hE3, hE4, hF, hG, hH⟩)))))
  · have h0 : 0 ≤ nI j := nI_pos' (by omega)
    have h255 : ¬ 255 < nI j := nI_nlt (a := 255) (b := j) (by omega) (by omega)
    rcases Nat.lt_or_ge t 64 with h64 | h64
    · have v64 : vp_in (nI t) 64 := in_nI h64 (by omega)
      have e64 : ¬ nI t = 64 := fun z => by have := (nI_eq (b := 64) (by omega) (by omega)).mp z; omega
      have hC' : LT (t + 1) (upd (fa 0) (Int32.toNatClampNeg (nI t)) (nI j)) (upd (ga 12) (Int32.toNatClampNeg (nI t)) (nI j)) := by
        rw [nI_clamp (show t < 2 ^ 31 by omega)]
        refine ⟨by omega, fun i hi => ?_⟩
        by_cases e : i = t
        · subst e; rw [pk_us, pk_us]; exact ⟨j, hj, rfl, rfl⟩
        · rw [pk_un e, pk_un e]; exact hl i (by omega)
      refine br_t h0 (br_f h255 (br_t (nI_lt (b := 64) h64 (by omega)) ?_))
      refine br_f (nI_ge (b := 64) h64 (by omega)) ⟨v64, ?_⟩
      rw [nI_1]
      refine br_t h0 (br_f h255 (br_f e64 ⟨v64, ?_⟩))
      rw [nI_1]
      exact ⟨rfl, w, r, n, q, kd, se, gw, st, rk, re, rw, rg, pa, pb, t + 1, (by first | exact e2 | rfl), (by first | exact e3 | rfl), (by first | exact e4 | rfl), (by first | exact e5 | rfl), (by first | exact m0 | rfl), (by first | exact m1 | rfl), (by first | exact m2 | rfl), (by first | exact m3 | rfl), (by first | exact c1 | rfl), (by first | exact c7 | rfl), hT, hT', hR, hR', hP, hP', hB, hC', hD, hE0, hE1, hE2, hE3, hE4, hF, hG, hH⟩
    · obtain rfl : t = 64 := by omega
      exact br_t h0 (br_f h255 (br_f (by decide) (ref_X r6 (br_t h0 (br_f h255 (br_t rfl (no_M r6 ⟨rfl, w, r, n, q, kd, se, gw, st, rk, re, rw, rg, pa, pb, 64, (by first | exact e2 | rfl), (by first | exact e3 | rfl), (by first | exact e4 | rfl), (by first | exact e5 | rfl), (by first | exact m0 | rfl), (by first | exact m1 | rfl), (by first | exact m2 | rfl), (by first | exact m3 | rfl), (by first | exact c1 | rfl), (by first | exact c7 | rfl), hT, hT', hR, hR', hP, hP', RF_up hB r6, hC, hD, hE0, hE1, hE2, hE3, hE4, hF, hG, hH⟩)))))))
theorem op2 {N : Nat} (hN : 8000 < N) : zop2 N Inv := by
  intro vi fa wi ga x1 x2 hI
  obtain ⟨w, r, n, q, kd, se, gw, st, rk, re, rw, rg, pa, pb, t, e2, e3, e4, e5, m0, m1, m2, m3, c1, c7, hT, hT', hR, hR', hP, hP', hB, hC, hD, hE0, hE1, hE2, hE3, hE4, hF, hG, hH⟩ := hI
  obtain ⟨⟨hw6, hk, hs⟩, hRD, hg⟩ := id hT
  obtain ⟨⟨-, hk', hs'⟩, -, hg'⟩ := id hT'
  rw [e2, m0]
  rcases out x1 (n := w) (by omega) with h | ⟨j, hj, rfl⟩
  · exact hw_out h (br_t rfl (ref_X r1 (nw_out h (br_f (by decide) (no_M r1 ⟨rfl, w, r, n, q, kd, se, gw, st, rk, re, rw, rg, pa, pb, t, (by first | exact e2 | rfl), (by first | exact e3 | rfl), (by first | exact e4 | rfl), (by first | exact e5 | rfl), (by first | exact m0 | rfl), (by first | exact m1 | rfl), (by first | exact m2 | rfl), (by first | exact m3 | rfl), (by first | exact c1 | rfl), (by first | exact c7 | rfl), hT, hT', hR, hR', hP, hP', RF_up hB r1, hC, hD, hE0, hE1, hE2, hE3, hE4, hF, hG, hH⟩)))))
  · have v6 : vp_in (nI j) 6 := in_nI (by omega) (by omega)
    have cl : (nI j).toNatClampNeg = j := nI_clamp (by omega)
    refine hw_some hj (by omega) (br_f (by decide) ?_)
    rw [cl]
    by_cases h0 : x2 = 0
    · subst h0
      refine ⟨fun _ => ⟨v6, nw_some hj (by omega) (br_t rfl ?_)⟩, fun z => absurd z (by decide), fun z => absurd z (by decide), fun z => absurd z (by decide), fun z0 z1 z2 z3 => absurd rfl z0⟩
      rw [cl]
      exact ⟨fun _ => ⟨v6, by rw [(hk j hj).1, (hk' j hj).1], w, r, n, q, kd, se, gw, st, rk, re, rw, rg, pa, pb, t, (by first | exact e2 | rfl), (by first | exact e3 | rfl), (by first | exact e4 | rfl), (by first | exact e5 | rfl), (by first | exact m0 | rfl), (by first | exact m1 | rfl), (by first | exact m2 | rfl), (by first | exact m3 | rfl), (by first | exact c1 | rfl), (by first | exact c7 | rfl), hT, hT', hR, hR', hP, hP', hB, hC, hD, hE0, hE1, hE2, hE3, hE4, hF, hG, hH⟩, fun z => absurd z (by decide), fun z => absurd z (by decide), fun z => absurd z (by decide), fun z0 z1 z2 z3 => absurd rfl z0⟩
    by_cases h1 : x2 = 1
    · subst h1
      refine ⟨fun z => absurd z (by decide), fun _ => ⟨v6, nw_some hj (by omega) (br_t rfl ?_)⟩, fun z => absurd z (by decide), fun z => absurd z (by decide), fun z0 z1 z2 z3 => absurd rfl z1⟩
      rw [cl]
      exact ⟨fun z => absurd z (by decide), fun _ => ⟨v6, by rw [(hs j hj).1, (hs' j hj).1], w, r, n, q, kd, se, gw, st, rk, re, rw, rg, pa, pb, t, (by first | exact e2 | rfl), (by first | exact e3 | rfl), (by first | exact e4 | rfl), (by first | exact e5 | rfl), (by first | exact m0 | rfl), (by first | exact m1 | rfl), (by first | exact m2 | rfl), (by first | exact m3 | rfl), (by first | exact c1 | rfl), (by first | exact c7 | rfl), hT, hT', hR, hR', hP, hP', hB, hC, hD, hE0, hE1, hE2, hE3, hE4, hF, hG, hH⟩, fun z => absurd z (by decide), fun z => absurd z (by decide), fun z0 z1 z2 z3 => absurd rfl z1⟩
    by_cases h2 : x2 = 2
    · subst h2
      refine ⟨fun z => absurd z (by decide), fun z => absurd z (by decide), fun _ => ⟨v6, nw_some hj (by omega) (br_t rfl ?_)⟩, fun z => absurd z (by decide), fun z0 z1 z2 z3 => absurd rfl z2⟩
      rw [cl]
      exact ⟨fun z => absurd z (by decide), fun z => absurd z (by decide), fun _ => ⟨v6, by rw [(hg j hj).1, (hg' j hj).1], w, r, n, q, kd, se, gw, st, rk, re, rw, rg, pa, pb, t, (by first | exact e2 | rfl), (by first | exact e3 | rfl), (by first | exact e4 | rfl), (by first | exact e5 | rfl), (by first | exact m0 | rfl), (by first | exact m1 | rfl), (by first | exact m2 | rfl), (by first | exact m3 | rfl), (by first | exact c1 | rfl), (by first | exact c7 | rfl), hT, hT', hR, hR', hP, hP', hB, hC, hD, hE0, hE1, hE2, hE3, hE4, hF, hG, hH⟩, fun z => absurd z (by decide), fun z0 z1 z2 z3 => absurd rfl z2⟩
    by_cases h3 : x2 = 3
    · subst h3
      refine ⟨fun z => absurd z (by decide), fun z => absurd z (by decide), fun z => absurd z (by decide), fun _ => ⟨v6, nw_some hj (by omega) (br_t rfl ?_)⟩, fun z0 z1 z2 z3 => absurd rfl z3⟩
      rw [cl]
      exact ⟨fun z => absurd z (by decide), fun z => absurd z (by decide), fun z => absurd z (by decide), fun _ => ⟨v6, by rw [(hg j hj).2.2.1, (hg' j hj).2.2.1], w, r, n, q, kd, se, gw, st, rk, re, rw, rg, pa, pb, t, (by first | exact e2 | rfl), (by first | exact e3 | rfl), (by first | exact e4 | rfl), (by first | exact e5 | rfl), (by first | exact m0 | rfl), (by first | exact m1 | rfl), (by first | exact m2 | rfl), (by first | exact m3 | rfl), (by first | exact c1 | rfl), (by first | exact c7 | rfl), hT, hT', hR, hR', hP, hP', hB, hC, hD, hE0, hE1, hE2, hE3, hE4, hF, hG, hH⟩, fun z0 z1 z2 z3 => absurd rfl z3⟩
    refine ⟨fun z => absurd z h0, fun z => absurd z h1, fun z => absurd z h2, fun z => absurd z h3, fun _ _ _ _ => ref_X r2 (nw_some hj (by omega) (br_t rfl ?_))⟩
    exact ⟨fun z => absurd z h0, fun z => absurd z h1, fun z => absurd z h2, fun z => absurd z h3, fun _ _ _ _ => no_M r2 ⟨rfl, w, r, n, q, kd, se, gw, st, rk, re, rw, rg, pa, pb, t, (by first | exact e2 | rfl), (by first | exact e3 | rfl), (by first | exact e4 | rfl), (by first | exact e5 | rfl), (by first | exact m0 | rfl), (by first | exact m1 | rfl), (by first | exact m2 | rfl), (by first | exact m3 | rfl), (by first | exact c1 | rfl), (by first | exact c7 | rfl), hT, hT', hR, hR', hP, hP', RF_up hB r2, hC, hD, hE0, hE1, hE2, hE3, hE4, hF, hG, hH⟩⟩
theorem op3 {N : Nat} (hN : 8000 < N) : zop3 N Inv := by
  intro vi fa wi ga x1 x2 hI
  obtain ⟨w, r, n, q, kd, se, gw, st, rk, re, rw, rg, pa, pb, t, e2, e3, e4, e5, m0, m1, m2, m3, c1, c7, hT, hT', hR, hR', hP, hP', hB, hC, hD, hE0, hE1, hE2, hE3, hE4, hF, hG, hH⟩ := hI
  obtain ⟨hK, hD6, hg⟩ := id hT
  obtain ⟨hK', hD6', hg'⟩ := id hT'
  obtain ⟨hr6, hd⟩ := id hD6
  obtain ⟨-, hd'⟩ := id hD6'
  have hn := hR.1
  rw [e2, e3, e4, m1, m2]
  rcases out x1 (n := r) (by omega) with h | ⟨j, hj, rfl⟩
  · refine hr_out h (br_t rfl (ref_X r1 ?_))
    rcases Classical.em (x1 < 0) with h0 | h0
    · exact br_t h0 (no_M r1 ⟨rfl, w, r, n, q, kd, se, gw, st, rk, re, rw, rg, pa, pb, t, (by first | exact e2 | rfl), (by first | exact e3 | rfl), (by first | exact e4 | rfl), (by first | exact e5 | rfl), (by first | exact m0 | rfl), (by first | exact m1 | rfl), (by first | exact m2 | rfl), (by first | exact m3 | rfl), (by first | exact c1 | rfl), (by first | exact c7 | rfl), hT, hT', hR, hR', hP, hP', RF_up hB r1, hC, hD, hE0, hE1, hE2, hE3, hE4, hF, hG, hH⟩)
    · exact br_f h0 (br_f (nlt (h.resolve_left h0)) (no_M r1 ⟨rfl, w, r, n, q, kd, se, gw, st, rk, re, rw, rg, pa, pb, t, (by first | exact e2 | rfl), (by first | exact e3 | rfl), (by first | exact e4 | rfl), (by first | exact e5 | rfl), (by first | exact m0 | rfl), (by first | exact m1 | rfl), (by first | exact m2 | rfl), (by first | exact m3 | rfl), (by first | exact c1 | rfl), (by first | exact c7 | rfl), hT, hT', hR, hR', hP, hP', RF_up hB r1, hC, hD, hE0, hE1, hE2, hE3, hE4, hF, hG, hH⟩))
  · have v6 : vp_in (nI j) 6 := in_nI (by omega) (by omega)
    have cl : (nI j).toNatClampNeg = j := nI_clamp (by omega)
    have hp : ¬ nI j < 0 := nI_pos (by omega)
    have hl : nI j < nI r := nI_lt hj (by omega)
    obtain ⟨d1, d2, d3, -⟩ := hd j hj
    obtain ⟨d1', d2', d3', -⟩ := hd' j hj
    refine hr_some hj (by omega) (br_f (by decide) ?_)
    rw [cl]
    by_cases h0 : x2 = 0
    · subst h0
      refine ⟨fun _ => ⟨v6, br_f hp (br_t hl ?_)⟩, fun z => absurd z (by decide), fun z => absurd z (by decide), fun z => absurd z (by decide), fun z => absurd z (by decide), fun z0 z1 z2 z3 z4 => absurd rfl z0⟩
      rw [cl]
      exact ⟨fun _ => ⟨v6, by rw [d1, d1'], w, r, n, q, kd, se, gw, st, rk, re, rw, rg, pa, pb, t, (by first | exact e2 | rfl), (by first | exact e3 | rfl), (by first | exact e4 | rfl), (by first | exact e5 | rfl), (by first | exact m0 | rfl), (by first | exact m1 | rfl), (by first | exact m2 | rfl), (by first | exact m3 | rfl), (by first | exact c1 | rfl), (by first | exact c7 | rfl), hT, hT', hR, hR', hP, hP', hB, hC, hD, hE0, hE1, hE2, hE3, hE4, hF, hG, hH⟩, fun z => absurd z (by decide), fun z => absurd z (by decide), fun z => absurd z (by decide), fun z => absurd z (by decide), fun z0 z1 z2 z3 z4 => absurd rfl z0⟩
    by_cases h1 : x2 = 1
    · subst h1
      refine ⟨fun z => absurd z (by decide), fun _ => ⟨v6, br_f hp (br_t hl ?_)⟩, fun z => absurd z (by decide), fun z => absurd z (by decide), fun z => absurd z (by decide), fun z0 z1 z2 z3 z4 => absurd rfl z1⟩
      rw [cl]
      exact ⟨fun z => absurd z (by decide), fun _ => ⟨v6, by rw [d2, d2'], w, r, n, q, kd, se, gw, st, rk, re, rw, rg, pa, pb, t, (by first | exact e2 | rfl), (by first | exact e3 | rfl), (by first | exact e4 | rfl), (by first | exact e5 | rfl), (by first | exact m0 | rfl), (by first | exact m1 | rfl), (by first | exact m2 | rfl), (by first | exact m3 | rfl), (by first | exact c1 | rfl), (by first | exact c7 | rfl), hT, hT', hR, hR', hP, hP', hB, hC, hD, hE0, hE1, hE2, hE3, hE4, hF, hG, hH⟩, fun z => absurd z (by decide), fun z => absurd z (by decide), fun z => absurd z (by decide), fun z0 z1 z2 z3 z4 => absurd rfl z1⟩
    by_cases h2 : x2 = 2
    · subst h2
      refine ⟨fun z => absurd z (by decide), fun z => absurd z (by decide), fun _ => ⟨v6, br_f hp (br_t hl ?_)⟩, fun z => absurd z (by decide), fun z => absurd z (by decide), fun z0 z1 z2 z3 z4 => absurd rfl z2⟩
      rw [cl]
      exact ⟨fun z => absurd z (by decide), fun z => absurd z (by decide), fun _ => ⟨v6, by rw [d3, d3'], w, r, n, q, kd, se, gw, st, rk, re, rw, rg, pa, pb, t, (by first | exact e2 | rfl), (by first | exact e3 | rfl), (by first | exact e4 | rfl), (by first | exact e5 | rfl), (by first | exact m0 | rfl), (by first | exact m1 | rfl), (by first | exact m2 | rfl), (by first | exact m3 | rfl), (by first | exact c1 | rfl), (by first | exact c7 | rfl), hT, hT', hR, hR', hP, hP', hB, hC, hD, hE0, hE1, hE2, hE3, hE4, hF, hG, hH⟩, fun z => absurd z (by decide), fun z => absurd z (by decide), fun z0 z1 z2 z3 z4 => absurd rfl z2⟩
    by_cases h3 : x2 = 3
    · subst h3
      by_cases hn0 : nI n = 0
      · refine ⟨fun z => absurd z (by decide), fun z => absurd z (by decide), fun z => absurd z (by decide), fun _ => br_t hn0 (br_f hp (br_t hl ?_)), fun z => absurd z (by decide), fun z0 z1 z2 z3 z4 => absurd rfl z3⟩
        exact ⟨fun z => absurd z (by decide), fun z => absurd z (by decide), fun z => absurd z (by decide), fun _ => br_t hn0 ⟨rfl, w, r, n, q, kd, se, gw, st, rk, re, rw, rg, pa, pb, t, (by first | exact e2 | rfl), (by first | exact e3 | rfl), (by first | exact e4 | rfl), (by first | exact e5 | rfl), (by first | exact m0 | rfl), (by first | exact m1 | rfl), (by first | exact m2 | rfl), (by first | exact m3 | rfl), (by first | exact c1 | rfl), (by first | exact c7 | rfl), hT, hT', hR, hR', hP, hP', hB, hC, hD, hE0, hE1, hE2, hE3, hE4, hF, hG, hH⟩, fun z => absurd z (by decide), fun z0 z1 z2 z3 z4 => absurd rfl z3⟩
      · refine ⟨fun z => absurd z (by decide), fun z => absurd z (by decide), fun z => absurd z (by decide), fun _ => br_f hn0 ⟨v6, ?_⟩, fun z => absurd z (by decide), fun z0 z1 z2 z3 z4 => absurd rfl z3⟩
        rw [cl]
        refine br_f hp (br_t hl ?_)
        rw [cl]
        exact ⟨fun z => absurd z (by decide), fun z => absurd z (by decide), fun z => absurd z (by decide), fun _ => br_f hn0 ⟨v6, by rw [d2, d2'], w, r, n, q, kd, se, gw, st, rk, re, rw, rg, pa, pb, t, (by first | exact e2 | rfl), (by first | exact e3 | rfl), (by first | exact e4 | rfl), (by first | exact e5 | rfl), (by first | exact m0 | rfl), (by first | exact m1 | rfl), (by first | exact m2 | rfl), (by first | exact m3 | rfl), (by first | exact c1 | rfl), (by first | exact c7 | rfl), hT, hT', hR, hR', hP, hP', hB, hC, hD, hE0, hE1, hE2, hE3, hE4, hF, hG, hH⟩, fun z => absurd z (by decide), fun z0 z1 z2 z3 z4 => absurd rfl z3⟩
    by_cases h4 : x2 = 4
    · subst h4
      refine ⟨fun z => absurd z (by decide), fun z => absurd z (by decide), fun z => absurd z (by decide), fun z => absurd z (by decide), fun _ => rd_X (by omega) hK hR hD6 hj (br_f hp (br_t hl ?_)), fun z0 z1 z2 z3 z4 => absurd rfl z4⟩
      exact ⟨fun z => absurd z (by decide), fun z => absurd z (by decide), fun z => absurd z (by decide), fun z => absurd z (by decide), fun _ => rd_M (by omega) hK' hR' hD6' hj ⟨rfl, w, r, n, q, kd, se, gw, st, rk, re, rw, rg, pa, pb, t, (by first | exact e2 | rfl), (by first | exact e3 | rfl), (by first | exact e4 | rfl), (by first | exact e5 | rfl), (by first | exact m0 | rfl), (by first | exact m1 | rfl), (by first | exact m2 | rfl), (by first | exact m3 | rfl), (by first | exact c1 | rfl), (by first | exact c7 | rfl), hT, hT', hR, hR', hP, hP', hB, hC, hD, hE0, hE1, hE2, hE3, hE4, hF, hG, hH⟩, fun z0 z1 z2 z3 z4 => absurd rfl z4⟩
    refine ⟨fun z => absurd z h0, fun z => absurd z h1, fun z => absurd z h2, fun z => absurd z h3, fun z => absurd z h4, fun _ _ _ _ _ => ref_X r2 (br_f hp (br_t hl ?_))⟩
    exact ⟨fun z => absurd z h0, fun z => absurd z h1, fun z => absurd z h2, fun z => absurd z h3, fun z => absurd z h4, fun _ _ _ _ _ => no_M r2 ⟨rfl, w, r, n, q, kd, se, gw, st, rk, re, rw, rg, pa, pb, t, (by first | exact e2 | rfl), (by first | exact e3 | rfl), (by first | exact e4 | rfl), (by first | exact e5 | rfl), (by first | exact m0 | rfl), (by first | exact m1 | rfl), (by first | exact m2 | rfl), (by first | exact m3 | rfl), (by first | exact c1 | rfl), (by first | exact c7 | rfl), hT, hT', hR, hR', hP, hP', RF_up hB r2, hC, hD, hE0, hE1, hE2, hE3, hE4, hF, hG, hH⟩⟩

theorem op4 {N : Nat} (hN : 8000 < N) : zop4 N Inv := by
  intro vi fa wi ga x1 hI
  obtain ⟨w, r, n, q, kd, se, gw, st, rk, re, rw, rg, pa, pb, t, e2, e3, e4, e5, m0, m1, m2, m3, c1, c7, hT, hT', hR, hR', hP, hP', hB, hC, hD, hE0, hE1, hE2, hE3, hE4, hF, hG, hH⟩ := hI
  have hw6 := hT.1.1
  have hn := hR.1
  rw [e2, e4, m0, m2]
  rcases wordOr x1 hw6 with ⟨h1, h2, h3⟩ | ⟨o, rfl, ho⟩
  · refine wb_out h1 h3 (br_t rfl (ref_X r1 ?_))
    rcases Classical.em (x1 < -1) with h0 | h0
    · exact br_t h0 (no_M r1 ⟨rfl, w, r, n, q, kd, se, gw, st, rk, re, rw, rg, pa, pb, t, (by first | exact e2 | rfl), (by first | exact e3 | rfl), (by first | exact e4 | rfl), (by first | exact e5 | rfl), (by first | exact m0 | rfl), (by first | exact m1 | rfl), (by first | exact m2 | rfl), (by first | exact m3 | rfl), (by first | exact c1 | rfl), (by first | exact c7 | rfl), hT, hT', hR, hR', hP, hP', RF_up hB r1, hC, hD, hE0, hE1, hE2, hE3, hE4, hF, hG, hH⟩)
    · exact br_f h0 (br_f (nlt (h2.resolve_left h0)) (no_M r1 ⟨rfl, w, r, n, q, kd, se, gw, st, rk, re, rw, rg, pa, pb, t, (by first | exact e2 | rfl), (by first | exact e3 | rfl), (by first | exact e4 | rfl), (by first | exact e5 | rfl), (by first | exact m0 | rfl), (by first | exact m1 | rfl), (by first | exact m2 | rfl), (by first | exact m3 | rfl), (by first | exact c1 | rfl), (by first | exact c7 | rfl), hT, hT', hR, hR', hP, hP', RF_up hB r1, hC, hD, hE0, hE1, hE2, hE3, hE4, hF, hG, hH⟩))
  · have g1 := ow_ge (o := o) (fun v hv => by have := ho v hv; omega)
    have g2 := ow_lt hw6 ho
    refine wb_some hw6 ho (br_f (by decide) ?_)
    rcases Nat.lt_or_ge n 12 with h12 | h12
    · have v12 : vp_in (nI n) 12 := in_nI h12 (by omega)
      have ne12 : ¬ nI n = 12 := fun z => by have := (nI_eq (b := 12) (by omega) (by omega)).mp z; omega
      have cl : (nI n).toNatClampNeg = n := nI_clamp (by omega)
      refine br_t (nI_lt (b := 12) h12 (by omega)) (br_f (nI_ge (b := 12) h12 (by omega)) ⟨v12, ?_⟩)
      rw [nI_1, cl]
      refine br_f g1 (br_t g2 (br_f ne12 ⟨v12, ?_⟩))
      rw [nI_1, cl]
      exact ⟨rfl, w, r, n + 1, q, kd, se, gw, st, rk, re, rw, va_up rg n o, pa, pb, t, (by first | exact e2 | rfl), (by first | exact e3 | rfl), (by first | exact e4 | rfl), (by first | exact e5 | rfl), (by first | exact m0 | rfl), (by first | exact m1 | rfl), (by first | exact m2 | rfl), (by first | exact m3 | rfl), (by first | exact c1 | rfl), (by first | exact c7 | rfl), hT, hT', RW_put hR (by omega) h12 (by omega) ho, RW_put hR' (by omega) h12 (by omega) ho, hP, hP', hB, hC, hD, hE0, hE1, hE2, hE3, hE4, hF, Or.inl rfl, hH⟩
    · obtain rfl : n = 12 := by omega
      exact br_f (by decide) (ref_X r6 (br_f g1 (br_t g2 (br_t rfl (no_M r6 ⟨rfl, w, r, 12, q, kd, se, gw, st, rk, re, rw, rg, pa, pb, t, (by first | exact e2 | rfl), (by first | exact e3 | rfl), (by first | exact e4 | rfl), (by first | exact e5 | rfl), (by first | exact m0 | rfl), (by first | exact m1 | rfl), (by first | exact m2 | rfl), (by first | exact m3 | rfl), (by first | exact c1 | rfl), (by first | exact c7 | rfl), hT, hT', hR, hR', hP, hP', RF_up hB r6, hC, hD, hE0, hE1, hE2, hE3, hE4, hF, hG, hH⟩)))))
theorem told_eq {o : Option Nat} {Φ : Int32 → Prop} {N : Nat} (k : Φ (ansO o)) (ho : ∀ v, o = some v → v < 100) : wp_X12_told N (ow o) Φ := by
  cases o with
  | none => exact br_t rfl k
  | some v => have := ho v rfl; exact br_f (nI_m1 (show v < 2 ^ 31 by omega)) k
theorem told_X {o : Option Nat} {j : Nat} {f : Nat → Int32} {Φ : Int32 → Prop} {N : Nat} (hj : j < 12) (hf : f j = ow o) (k : Φ (ansO o)) (ho : ∀ v, o = some v → v < 100) : wp_X4_toldAt N (nI j) f Φ := by
  have v12 : vp_in (nI j) 12 := in_nI hj (by omega)
  have cl : (nI j).toNatClampNeg = j := nI_clamp (by omega)
  unfold wp_X4_toldAt
  rw [cl, hf]
  cases o with
  | none => exact ⟨v12, br_t rfl k⟩
  | some v => have := ho v rfl; exact ⟨v12, br_f (nI_m1 (show v < 2 ^ 31 by omega)) ⟨v12, k⟩⟩
theorem op5 {N : Nat} (hN : 8000 < N) : zop5 N Inv := by
  intro vi fa wi ga x1 x2 hI
  obtain ⟨w, r, n, q, kd, se, gw, st, rk, re, rw, rg, pa, pb, t, e2, e3, e4, e5, m0, m1, m2, m3, c1, c7, hT, hT', hR, hR', hP, hP', hB, hC, hD, hE0, hE1, hE2, hE3, hE4, hF, hG, hH⟩ := hI
  have hw6 := hT.1.1
  have hn := hR.1
  rw [e2, e4, m0, m2]
  rcases out x1 (n := n) (by omega) with h | ⟨j, hj, rfl⟩
  · exact hp_out h (br_t rfl (ref_X r1 (np_out h (br_f (by decide) (no_M r1 ⟨rfl, w, r, n, q, kd, se, gw, st, rk, re, rw, rg, pa, pb, t, (by first | exact e2 | rfl), (by first | exact e3 | rfl), (by first | exact e4 | rfl), (by first | exact e5 | rfl), (by first | exact m0 | rfl), (by first | exact m1 | rfl), (by first | exact m2 | rfl), (by first | exact m3 | rfl), (by first | exact c1 | rfl), (by first | exact c7 | rfl), hT, hT', hR, hR', hP, hP', RF_up hB r1, hC, hD, hE0, hE1, hE2, hE3, hE4, hF, hG, hH⟩)))))
  · have cl : (nI j).toNatClampNeg = j := nI_clamp (by omega)
    have v12 : vp_in (nI j) 12 := in_nI (by omega) (by omega)
    obtain ⟨q1, q2⟩ := hR.2.2 j hj
    obtain ⟨q1', -⟩ := hR'.2.2 j hj
    refine hp_some hj (by omega) (br_f (by decide) ?_)
    rcases wordOr x2 hw6 with ⟨h1, h2, h3⟩ | ⟨o, rfl, ho⟩
    · refine wb_out h1 h3 (br_t rfl (ref_X r1 (np_some hj (by omega) (br_t rfl ?_))))
      rcases Classical.em (x2 < -1) with h0 | h0
      · exact br_t h0 (no_M r1 ⟨rfl, w, r, n, q, kd, se, gw, st, rk, re, rw, rg, pa, pb, t, (by first | exact e2 | rfl), (by first | exact e3 | rfl), (by first | exact e4 | rfl), (by first | exact e5 | rfl), (by first | exact m0 | rfl), (by first | exact m1 | rfl), (by first | exact m2 | rfl), (by first | exact m3 | rfl), (by first | exact c1 | rfl), (by first | exact c7 | rfl), hT, hT', hR, hR', hP, hP', RF_up hB r1, hC, hD, hE0, hE1, hE2, hE3, hE4, hF, hG, hH⟩)
      · exact br_f h0 (br_f (nlt (h2.resolve_left h0)) (no_M r1 ⟨rfl, w, r, n, q, kd, se, gw, st, rk, re, rw, rg, pa, pb, t, (by first | exact e2 | rfl), (by first | exact e3 | rfl), (by first | exact e4 | rfl), (by first | exact e5 | rfl), (by first | exact m0 | rfl), (by first | exact m1 | rfl), (by first | exact m2 | rfl), (by first | exact m3 | rfl), (by first | exact c1 | rfl), (by first | exact c7 | rfl), hT, hT', hR, hR', hP, hP', RF_up hB r1, hC, hD, hE0, hE1, hE2, hE3, hE4, hF, hG, hH⟩))
    · have g1 := ow_ge (o := o) (fun v hv => by have := ho v hv; omega)
      have g2 := ow_lt hw6 ho
      refine wb_some hw6 ho (br_f (by decide) (told_X (by omega) q1 ⟨v12, ?_⟩ (fun v hv => by have := q2 v hv; omega)))
      refine np_some hj (by omega) (br_t rfl (br_f g1 (br_t g2 ⟨v12, v12, ?_⟩)))
      rw [cl, q1']
      refine told_eq ⟨rfl, w, r, n, q, kd, se, gw, st, rk, re, rw, va_up rg j o, pa, pb, t, (by first | exact e2 | rfl), (by first | exact e3 | rfl), (by first | exact e4 | rfl), (by first | exact e5 | rfl), (by first | exact m0 | rfl), (by first | exact m1 | rfl), (by first | exact m2 | rfl), (by first | exact m3 | rfl), (by first | exact c1 | rfl), (by first | exact c7 | rfl), hT, hT', RW_put hR hn (by omega) (fun i hi _ => hi) ho, RW_put hR' hn (by omega) (fun i hi _ => hi) ho, hP, hP', hB, hC, hD, hE0, hE1, hE2, hE3, hE4, hF, Or.inl rfl, hH⟩ (fun v hv => by have := q2 v hv; omega)
theorem op7 {N : Nat} (hN : 8000 < N) : zop7 N Inv := by
  intro vi fa wi ga hI
  obtain ⟨w, r, n, q, kd, se, gw, st, rk, re, rw, rg, pa, pb, t, e2, e3, e4, e5, m0, m1, m2, m3, c1, c7, hT, hT', hR, hR', hP, hP', hB, hC, hD, hE0, hE1, hE2, hE3, hE4, hF, hG, hH⟩ := hI
  have z : ∀ f, RW w 0 12 rg f := fun f => ⟨by omega, by omega, fun i hi => by omega⟩
  show vi 4 = wi 2 ∧ _
  exact ⟨by rw [e4, m2], w, r, 0, q, kd, se, gw, st, rk, re, rw, rg, pa, pb, t, (by first | exact e2 | rfl), (by first | exact e3 | rfl), (by first | exact e4 | rfl), (by first | exact e5 | rfl), (by first | exact m0 | rfl), (by first | exact m1 | rfl), (by first | exact m2 | rfl), (by first | exact m3 | rfl), (by first | exact c1 | rfl), (by first | exact c7 | rfl), hT, hT', z _, z _, hP, hP', hB, hC, hD, hE0, hE1, hE2, hE3, hE4, hF, Or.inl rfl, hH⟩
theorem op8 {N : Nat} (hN : 8000 < N) : zop8 N Inv := by
  intro vi fa wi ga x1 hI
  obtain ⟨w, r, n, q, kd, se, gw, st, rk, re, rw, rg, pa, pb, t, e2, e3, e4, e5, m0, m1, m2, m3, c1, c7, hT, hT', hR, hR', hP, hP', hB, hC, hD, hE0, hE1, hE2, hE3, hE4, hF, hG, hH⟩ := hI
  have hw6 := hT.1.1
  have hn := hR.1
  rw [e4, m2]
  rcases out x1 (n := n) (by omega) with h | ⟨j, hj, rfl⟩
  · exact hp_out h (br_t rfl (ref_X r1 (np_out h (br_f (by decide) (no_M r1 ⟨rfl, w, r, n, q, kd, se, gw, st, rk, re, rw, rg, pa, pb, t, (by first | exact e2 | rfl), (by first | exact e3 | rfl), (by first | exact e4 | rfl), (by first | exact e5 | rfl), (by first | exact m0 | rfl), (by first | exact m1 | rfl), (by first | exact m2 | rfl), (by first | exact m3 | rfl), (by first | exact c1 | rfl), (by first | exact c7 | rfl), hT, hT', hR, hR', hP, hP', RF_up hB r1, hC, hD, hE0, hE1, hE2, hE3, hE4, hF, hG, hH⟩)))))
  · have cl : (nI j).toNatClampNeg = j := nI_clamp (by omega)
    have v12 : vp_in (nI j) 12 := in_nI (by omega) (by omega)
    obtain ⟨q1, q2⟩ := hR.2.2 j hj
    obtain ⟨q1', -⟩ := hR'.2.2 j hj
    have q3 : ∀ v, rg j = some v → v < 100 := fun v hv => by have := q2 v hv; omega
    refine hp_some hj (by omega) (br_f (by decide) (told_X (by omega) q1 (np_some hj (by omega) (br_t rfl ⟨v12, ?_⟩)) q3))
    rw [cl, q1']
    exact told_eq ⟨rfl, w, r, n, q, kd, se, gw, st, rk, re, rw, rg, pa, pb, t, (by first | exact e2 | rfl), (by first | exact e3 | rfl), (by first | exact e4 | rfl), (by first | exact e5 | rfl), (by first | exact m0 | rfl), (by first | exact m1 | rfl), (by first | exact m2 | rfl), (by first | exact m3 | rfl), (by first | exact c1 | rfl), (by first | exact c7 | rfl), hT, hT', hR, hR', hP, hP', hB, hC, hD, hE0, hE1, hE2, hE3, hE4, hF, hG, hH⟩ q3
theorem op9 {N : Nat} (hN : 8000 < N) : zop9 N Inv := by
  intro vi fa wi ga x1 x2 hI
  obtain ⟨w, r, n, q, kd, se, gw, st, rk, re, rw, rg, pa, pb, t, e2, e3, e4, e5, m0, m1, m2, m3, c1, c7, hT, hT', hR, hR', hP, hP', hB, hC, hD, hE0, hE1, hE2, hE3, hE4, hF, hG, hH⟩ := hI
  obtain ⟨hK, -, -⟩ := id hT
  obtain ⟨hK', -, -⟩ := id hT'
  have hn := hR.1
  rw [e2, e4, m2]
  rcases out x1 (n := n) (by omega) with h | ⟨j, hj, rfl⟩
  · exact hp_out h (br_t rfl (ref_X r1 (np_out h (br_f (by decide) (no_M r1 ⟨rfl, w, r, n, q, kd, se, gw, st, rk, re, rw, rg, pa, pb, t, (by first | exact e2 | rfl), (by first | exact e3 | rfl), (by first | exact e4 | rfl), (by first | exact e5 | rfl), (by first | exact m0 | rfl), (by first | exact m1 | rfl), (by first | exact m2 | rfl), (by first | exact m3 | rfl), (by first | exact c1 | rfl), (by first | exact c7 | rfl), hT, hT', hR, hR', hP, hP', RF_up hB r1, hC, hD, hE0, hE1, hE2, hE3, hE4, hF, hG, hH⟩)))))
  · refine hp_some hj (by omega) (br_f (by decide) ?_)
    rcases out x2 (n := 5) (by omega) with h | ⟨k, hk, rfl⟩
    · exact ir_out h (br_t rfl (ref_X r2 (np_some hj (by omega) (br_t rfl (nk_out h (br_f (by decide) (no_M r2 ⟨rfl, w, r, n, q, kd, se, gw, st, rk, re, rw, rg, pa, pb, t, (by first | exact e2 | rfl), (by first | exact e3 | rfl), (by first | exact e4 | rfl), (by first | exact e5 | rfl), (by first | exact m0 | rfl), (by first | exact m1 | rfl), (by first | exact m2 | rfl), (by first | exact m3 | rfl), (by first | exact c1 | rfl), (by first | exact c7 | rfl), hT, hT', hR, hR', hP, hP', RF_up hB r2, hC, hD, hE0, hE1, hE2, hE3, hE4, hF, hG, hH⟩)))))))
    · refine ir_some hk (br_f (by decide) (mn_X (by omega) hK.1 hR.1 hR.2.1 hj hK.2.1 hK.2.2 hR.2.2 (by omega) ?_))
      exact np_some hj (by omega) (br_t rfl (nk_some hk (br_t rfl (mn_M (by omega) hK'.1 hR'.1 hR'.2.1 hj hK'.2.1 hK'.2.2 hR'.2.2 (by omega) ⟨rfl, w, r, n, q, kd, se, gw, st, rk, re, rw, rg, pa, pb, t, (by first | exact e2 | rfl), (by first | exact e3 | rfl), (by first | exact e4 | rfl), (by first | exact e5 | rfl), (by first | exact m0 | rfl), (by first | exact m1 | rfl), (by first | exact m2 | rfl), (by first | exact m3 | rfl), (by first | exact c1 | rfl), (by first | exact c7 | rfl), hT, hT', hR, hR', hP, hP', hB, hC, hD, hE0, hE1, hE2, hE3, hE4, hF, hG, hH⟩))))
theorem op10 {N : Nat} (hN : 8000 < N) : zop10 N Inv := by
  intro vi fa wi ga x1 hI
  obtain ⟨w, r, n, q, kd, se, gw, st, rk, re, rw, rg, pa, pb, t, e2, e3, e4, e5, m0, m1, m2, m3, c1, c7, hT, hT', hR, hR', hP, hP', hB, hC, hD, hE0, hE1, hE2, hE3, hE4, hF, hG, hH⟩ := hI
  obtain ⟨hK, -, -⟩ := id hT
  obtain ⟨hK', -, -⟩ := id hT'
  have hn := hR.1
  rw [e2, e4, m2]
  rcases out x1 (n := 5) (by omega) with h | ⟨k, hk, rfl⟩
  · exact ir_out h (br_t rfl (ref_X r2 (nk_out h (br_f (by decide) (no_M r2 ⟨rfl, w, r, n, q, kd, se, gw, st, rk, re, rw, rg, pa, pb, t, (by first | exact e2 | rfl), (by first | exact e3 | rfl), (by first | exact e4 | rfl), (by first | exact e5 | rfl), (by first | exact m0 | rfl), (by first | exact m1 | rfl), (by first | exact m2 | rfl), (by first | exact m3 | rfl), (by first | exact c1 | rfl), (by first | exact c7 | rfl), hT, hT', hR, hR', hP, hP', RF_up hB r2, hC, hD, hE0, hE1, hE2, hE3, hE4, hF, hG, hH⟩)))))
  · refine ir_some hk (br_f (by decide) (one_X (by omega) hK hR (by omega) (br_c (fun c => ?_) (fun c => ?_))))
    · exact nk_some hk (br_t rfl (all_M (by omega) hK' hR' (by omega) (br_t c ⟨rfl, w, r, n, q, kd, se, gw, st, rk, re, rw, rg, pa, pb, t, (by first | exact e2 | rfl), (by first | exact e3 | rfl), (by first | exact e4 | rfl), (by first | exact e5 | rfl), (by first | exact m0 | rfl), (by first | exact m1 | rfl), (by first | exact m2 | rfl), (by first | exact m3 | rfl), (by first | exact c1 | rfl), (by first | exact c7 | rfl), hT, hT', hR, hR', hP, hP', hB, hC, hD, hE0, hE1, hE2, hE3, hE4, hF, hG, hH⟩)))
    · exact nk_some hk (br_t rfl (all_M (by omega) hK' hR' (by omega) (br_f c ⟨rfl, w, r, n, q, kd, se, gw, st, rk, re, rw, rg, pa, pb, t, (by first | exact e2 | rfl), (by first | exact e3 | rfl), (by first | exact e4 | rfl), (by first | exact e5 | rfl), (by first | exact m0 | rfl), (by first | exact m1 | rfl), (by first | exact m2 | rfl), (by first | exact m3 | rfl), (by first | exact c1 | rfl), (by first | exact c7 | rfl), hT, hT', hR, hR', hP, hP', hB, hC, hD, hE0, hE1, hE2, hE3, hE4, hF, hG, hH⟩)))
