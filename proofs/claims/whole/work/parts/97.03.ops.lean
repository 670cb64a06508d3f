theorem nbig {x : Int32} {a b : Nat} (h : nI a ≤ x) (hb : b < a) (ha : a < 2 ^ 31) : ¬ x ≤ nI b := by
  intro z
  have h1 := Int32.le_iff_toInt_le.mp h
  have h2 := Int32.le_iff_toInt_le.mp z
  rw [nI_toInt ha] at h1
  rw [nI_toInt (by omega)] at h2
  omega
theorem ge_of {x : Int32} {a b : Nat} (h : nI a ≤ x) (hb : b ≤ a) (ha : a < 2 ^ 31) : nI b ≤ x := by
  refine Int32.le_iff_toInt_le.mpr ?_
  have h1 := Int32.le_iff_toInt_le.mp h
  rw [nI_toInt ha] at h1
  rw [nI_toInt (by omega)]
  omega
/-! turn -/
theorem tn_X {N n b : Nat} {has : Nat → Int32} {Φ : Int32 → (Nat → Int32) → Int32 → (Nat → Int32) → (Nat → Int32) → Prop} {k : (Nat → Int32) → Prop} (hn : n ≤ 12) (hb : b < 12) (hk : ∀ row, (∀ i, i < n → row i = has ((i + b) % n)) → k row) :
    ∀ (l i fuel : Nat) (row : Nat → Int32), i + l = n → l < fuel → (∀ j, j < i → row j = has ((j + b) % n)) → lp_X11_turn_49 N (nI b) (nI n) has Φ k fuel (nI i) row := by
  intro l
  induction l with
  | zero =>
    intro i fuel row hi hf h
    obtain ⟨z, rfl⟩ : ∃ z, fuel = z + 1 := ⟨fuel - 1, by omega⟩
    rw [lp_X11_turn_49]
    obtain rfl : i = n := by omega
    exact br_t (nI_le (by omega) (by omega)) (hk row h)
  | succ l ih =>
    intro i fuel row hi hf h
    obtain ⟨z, rfl⟩ : ∃ z, fuel = z + 1 := ⟨fuel - 1, by omega⟩
    have e : (nI i + nI b) - (nI i + nI b) / nI n * nI n = nI ((i + b) % n) := by rw [nI_add]; exact pk_rem (by omega) (by omega) (by omega)
    have hm : (i + b) % n < n := Nat.mod_lt _ (by omega)
    rw [lp_X11_turn_49, e, nI_1, nI_clamp (show (i + b) % n < 2 ^ 31 by omega), nI_clamp (show i < 2 ^ 31 by omega)]
    refine br_f (nI_ge (by omega) (by omega)) ⟨nI_ne0 (by omega) (by omega), in_nI (by omega) (by omega), in_nI (by omega) (by omega), ih (i + 1) z _ (by omega) (by omega) (fun j hj => ?_)⟩
    by_cases c : j = i
    · subst c; rw [pk_us]
    · rw [pk_un c]; exact h j (by omega)
theorem tn_M {N n b : Nat} {ring : Nat → Int32} {Φ : Int32 → (Nat → Int32) → (Nat → Int32) → (Nat → Int32) → Prop} {k : (Nat → Int32) → Prop} (hn : n ≤ 12) (hb : b < 12) (hk : ∀ row, (∀ i, i < n → row i = ring ((i + b) % n)) → k row) :
    ∀ (l i fuel : Nat) (row : Nat → Int32), i + l = n → l < fuel → (∀ j, j < i → row j = ring ((j + b) % n)) → lp_X12_turn_40 N (nI b) (nI n) ring Φ k fuel (nI i) row := by
  intro l
  induction l with
  | zero =>
    intro i fuel row hi hf h
    obtain ⟨z, rfl⟩ : ∃ z, fuel = z + 1 := ⟨fuel - 1, by omega⟩
    rw [lp_X12_turn_40]
    obtain rfl : i = n := by omega
    exact br_t (nI_le (by omega) (by omega)) (hk row h)
  | succ l ih =>
    intro i fuel row hi hf h
    obtain ⟨z, rfl⟩ : ∃ z, fuel = z + 1 := ⟨fuel - 1, by omega⟩
    have e : (nI i + nI b) - (nI i + nI b) / nI n * nI n = nI ((i + b) % n) := by rw [nI_add]; exact pk_rem (by omega) (by omega) (by omega)
    have hm : (i + b) % n < n := Nat.mod_lt _ (by omega)
    rw [lp_X12_turn_40, e, nI_1, nI_clamp (show (i + b) % n < 2 ^ 31 by omega), nI_clamp (show i < 2 ^ 31 by omega)]
    refine br_f (nI_ge (by omega) (by omega)) ⟨nI_ne0 (by omega) (by omega), in_nI (by omega) (by omega), in_nI (by omega) (by omega), ih (i + 1) z _ (by omega) (by omega) (fun j hj => ?_)⟩
    by_cases c : j = i
    · subst c; rw [pk_us]
    · rw [pk_un c]; exact h j (by omega)
theorem tc_M {N n : Nat} {F turning : Nat → Int32} {Φ : Int32 → (Nat → Int32) → (Nat → Int32) → (Nat → Int32) → Prop} (hn : n ≤ 12) (hk : ∀ ring, (∀ i, i < n → ring i = turning i) → Φ (nI n) F ring turning) :
    ∀ (l i fuel : Nat) (ring : Nat → Int32), i + l = n → l < fuel → (∀ j, j < i → ring j = turning j) → lp_X12_turn_75 N (nI n) F turning Φ fuel (nI i) ring := by
  intro l
  induction l with
  | zero =>
    intro i fuel ring hi hf h
    obtain ⟨z, rfl⟩ : ∃ z, fuel = z + 1 := ⟨fuel - 1, by omega⟩
    rw [lp_X12_turn_75]
    obtain rfl : i = n := by omega
    exact br_t (nI_le (by omega) (by omega)) (hk ring h)
  | succ l ih =>
    intro i fuel ring hi hf h
    obtain ⟨z, rfl⟩ : ∃ z, fuel = z + 1 := ⟨fuel - 1, by omega⟩
    rw [lp_X12_turn_75, nI_1, nI_clamp (show i < 2 ^ 31 by omega)]
    refine br_f (nI_ge (by omega) (by omega)) ⟨in_nI (by omega) (by omega), in_nI (by omega) (by omega), ih (i + 1) z _ (by omega) (by omega) (fun j hj => ?_)⟩
    by_cases c : j = i
    · subst c; rw [pk_us]
    · rw [pk_un c]; exact h j (by omega)
theorem RW_rot {w n b : Nat} {rg : Nat → Option Nat} {f g : Nat → Int32} (h : RW w n 12 rg f) (hg : ∀ i, i < n → g i = f ((i + b) % n)) : RW w n 12 (fun i => rg ((i + b) % n)) g := by
  refine ⟨h.1, h.2.1, fun i hi => ?_⟩
  have hm : (i + b) % n < n := Nat.mod_lt _ (by omega)
  rw [hg i hi]
  exact h.2.2 _ hm
theorem op6 {N : Nat} (hN : 8000 < N) : zop6 N Inv := by
  intro vi fa wi ga x1 hI
  obtain ⟨w, r, n, q, kd, se, gw, st, rk, re, rw, rg, pa, pb, t, e2, e3, e4, e5, m0, m1, m2, m3, c1, c7, hT, hT', hR, hR', hP, hP', hB, hC, hD, hE0, hE1, hE2, hE3, hE4, hF, hG, hH⟩ := hI
  have hn := hR.1
  rw [e4, m2]
  rcases out x1 (n := 12) (by omega) with (h | h) | ⟨b, hb, rfl⟩
  · exact br_f (nle h) (ref_X r4 (br_f (nle h) (no_M r4 ⟨rfl, w, r, n, q, kd, se, gw, st, rk, re, rw, rg, pa, pb, t, (by first | exact e2 | rfl), (by first | exact e3 | rfl), (by first | exact e4 | rfl), (by first | exact e5 | rfl), (by first | exact m0 | rfl), (by first | exact m1 | rfl), (by first | exact m2 | rfl), (by first | exact m3 | rfl), (by first | exact c1 | rfl), (by first | exact c7 | rfl), hT, hT', hR, hR', hP, hP', RF_up hB r4, hC, hD, hE0, hE1, hE2, hE3, hE4, hF, hG, hH⟩)))
  · have h0 : 0 ≤ x1 := ge_of (b := 0) h (by omega) (by omega)
    exact br_t h0 (br_f (nlt h) (ref_X r6 (br_t h0 (br_f (nbig (b := 11) h (by omega) (by omega)) (no_M r6 ⟨rfl, w, r, n, q, kd, se, gw, st, rk, re, rw, rg, pa, pb, t, (by first | exact e2 | rfl), (by first | exact e3 | rfl), (by first | exact e4 | rfl), (by first | exact e5 | rfl), (by first | exact m0 | rfl), (by first | exact m1 | rfl), (by first | exact m2 | rfl), (by first | exact m3 | rfl), (by first | exact c1 | rfl), (by first | exact c7 | rfl), hT, hT', hR, hR', hP, hP', RF_up hB r6, hC, hD, hE0, hE1, hE2, hE3, hE4, hF, hG, hH⟩)))))
  · have h0 : 0 ≤ nI b := nI_pos' (by omega)
    refine br_t h0 (br_t (nI_lt (b := 12) hb (by omega)) ?_)
    rcases Nat.eq_zero_or_pos n with e | hn0
    · subst e
      exact br_f (by decide) (ref_X r3 (br_t h0 (br_t (nI_le (b := 11) (by omega) (by omega)) (br_t rfl (no_M r3 ⟨rfl, w, r, 0, q, kd, se, gw, st, rk, re, rw, rg, pa, pb, t, (by first | exact e2 | rfl), (by first | exact e3 | rfl), (by first | exact e4 | rfl), (by first | exact e5 | rfl), (by first | exact m0 | rfl), (by first | exact m1 | rfl), (by first | exact m2 | rfl), (by first | exact m3 | rfl), (by first | exact c1 | rfl), (by first | exact c7 | rfl), hT, hT', hR, hR', hP, hP', RF_up hB r3, hC, hD, hE0, hE1, hE2, hE3, hE4, hF, hG, hH⟩)))))
    · refine br_t (nI_le (a := 1) (by omega) (by omega)) (tn_X (by omega) hb (fun row hrow => ?_) n 0 N _ (by omega) (by omega) (fun j hj => by omega))
      have c0 : (0 : Int32).toNatClampNeg = 0 := by decide
      have cn : (nI n).toNatClampNeg = n := nI_clamp (by omega)
      unfold ex_X11_turn_82
      rw [c0, cn]
      refine ⟨nI_pos (by omega), by omega, by omega, ?_⟩
      refine br_t h0 (br_t (nI_le (b := 11) (by omega) (by omega)) (br_f (nI_ne0 (by omega) (by omega)) (tn_M (by omega) hb (fun row' hrow' => ?_) n 0 N _ (by omega) (by omega) (fun j hj => by omega))))
      unfold ex_X12_turn_73
      refine tc_M (by omega) (fun ring' hring' => ?_) n 0 N _ (by omega) (by omega) (fun j hj => by omega)
      have g1 : RW w n 12 (fun i => rg ((i + b) % n)) (va_cpy row (fa 8) 0 0 n) := RW_rot hR (fun i hi => by
        rw [pk_cpy_in (by omega) (by omega), show 0 + (i - 0) = i by omega]; exact hrow i hi)
      have g2 : RW w n 12 (fun i => rg ((i + b) % n)) ring' := RW_rot hR' (fun i hi => by rw [hring' i hi]; exact hrow' i hi)
      exact ⟨rfl, w, r, n, q, kd, se, gw, st, rk, re, rw, (fun i => rg ((i + b) % n)), pa, pb, t, (by first | exact e2 | rfl), (by first | exact e3 | rfl), (by first | exact e4 | rfl), (by first | exact e5 | rfl), (by first | exact m0 | rfl), (by first | exact m1 | rfl), (by first | exact m2 | rfl), (by first | exact m3 | rfl), (by first | exact c1 | rfl), (by first | exact c7 | rfl), hT, hT', g1, g2, hP, hP', hB, hC, hD, hE0, hE1, hE2, hE3, hE4, hF, Or.inl rfl, hH⟩
/-! says -/
def sy (f : Nat → Nat) : Nat → Nat → Int32 → Int32
  | 0, _, x => x
  | l + 1, p, x => sy f l (p + 1) (x ||| ((1 : Int32) <<< (nI (f p) &&& 31)))
theorem sy_X {N w n k : Nat} {kd se : Nat → Nat} {kinds sets p1 F : Nat → Int32} {Φ : Int32 → (Nat → Int32) → Prop} {row : Nat → Option Nat} (hN : 100 < N) (hK : KS w kd se kinds sets) (hR : RW w n 12 row p1) (hk : k ≤ 4) :
    ∀ (l p fuel : Nat) (x : Int32), p + l = n → l < fuel → Φ (sy (fun p => mean kd se row n p k) l p x) F → lp_X11_says_18 N (nI k) (nI w) kinds sets (nI n) p1 F Φ fuel x (nI p) := by
  have hn := hR.1
  intro l
  induction l with
  | zero =>
    intro p fuel x hp hf h
    obtain ⟨z, rfl⟩ : ∃ z, fuel = z + 1 := ⟨fuel - 1, by omega⟩
    rw [lp_X11_says_18]
    exact br_t (nI_le (by omega) (by omega)) h
  | succ l ih =>
    intro p fuel x hp hf h
    obtain ⟨z, rfl⟩ : ∃ z, fuel = z + 1 := ⟨fuel - 1, by omega⟩
    rw [lp_X11_says_18]
    refine br_f (nI_ge (by omega) (by omega)) (mn_X hN hK.1 hR.1 hR.2.1 (by omega) hK.2.1 hK.2.2 hR.2.2 hk ?_)
    rw [nI_1]
    exact ih (p + 1) z _ (by omega) (by omega) h
theorem sy_M {N w n k : Nat} {kd se : Nat → Nat} {kinds sets p1 F : Nat → Int32} {Φ : Int32 → (Nat → Int32) → Prop} {row : Nat → Option Nat} (hN : 100 < N) (hK : KS w kd se kinds sets) (hR : RW w n 12 row p1) (hk : k ≤ 4) :
    ∀ (l p fuel : Nat) (x : Int32), p + l = n → l < fuel → Φ (sy (fun p => mean kd se row n p k) l p x) F → lp_X12_says_18 N (nI k) (nI n) F kinds sets p1 Φ fuel x (nI p) := by
  have hn := hR.1
  intro l
  induction l with
  | zero =>
    intro p fuel x hp hf h
    obtain ⟨z, rfl⟩ : ∃ z, fuel = z + 1 := ⟨fuel - 1, by omega⟩
    rw [lp_X12_says_18]
    exact br_t (nI_le (by omega) (by omega)) h
  | succ l ih =>
    intro p fuel x hp hf h
    obtain ⟨z, rfl⟩ : ∃ z, fuel = z + 1 := ⟨fuel - 1, by omega⟩
    rw [lp_X12_says_18]
    refine br_f (nI_ge (by omega) (by omega)) (mn_M hN hK.1 hR.1 hR.2.1 (by omega) hK.2.1 hK.2.2 hR.2.2 hk ?_)
    rw [nI_1]
    exact ih (p + 1) z _ (by omega) (by omega) h
theorem op11 {N : Nat} (hN : 8000 < N) : zop11 N Inv := by
  intro vi fa wi ga x1 hI
  obtain ⟨w, r, n, q, kd, se, gw, st, rk, re, rw, rg, pa, pb, t, e2, e3, e4, e5, m0, m1, m2, m3, c1, c7, hT, hT', hR, hR', hP, hP', hB, hC, hD, hE0, hE1, hE2, hE3, hE4, hF, hG, hH⟩ := hI
  obtain ⟨hK, -, -⟩ := id hT
  obtain ⟨hK', -, -⟩ := id hT'
  have hn := hR.1
  rw [e2, e4, m2]
  rcases out x1 (n := 5) (by omega) with h | ⟨k, hk, rfl⟩
  · exact ir_out h (br_t rfl (ref_X r2 (nk_out h (br_f (by decide) (no_M r2 ⟨rfl, w, r, n, q, kd, se, gw, st, rk, re, rw, rg, pa, pb, t, (by first | exact e2 | rfl), (by first | exact e3 | rfl), (by first | exact e4 | rfl), (by first | exact e5 | rfl), (by first | exact m0 | rfl), (by first | exact m1 | rfl), (by first | exact m2 | rfl), (by first | exact m3 | rfl), (by first | exact c1 | rfl), (by first | exact c7 | rfl), hT, hT', hR, hR', hP, hP', RF_up hB r2, hC, hD, hE0, hE1, hE2, hE3, hE4, hF, hG, hH⟩)))))
  · refine ir_some hk (br_f (by decide) (sy_X (by omega) hK hR (by omega) n 0 N 0 (by omega) (by omega) ?_))
    exact nk_some hk (br_t rfl (sy_M (by omega) hK' hR' (by omega) n 0 N 0 (by omega) (by omega) ⟨rfl, w, r, n, q, kd, se, gw, st, rk, re, rw, rg, pa, pb, t, (by first | exact e2 | rfl), (by first | exact e3 | rfl), (by first | exact e4 | rfl), (by first | exact e5 | rfl), (by first | exact m0 | rfl), (by first | exact m1 | rfl), (by first | exact m2 | rfl), (by first | exact m3 | rfl), (by first | exact c1 | rfl), (by first | exact c7 | rfl), hT, hT', hR, hR', hP, hP', hB, hC, hD, hE0, hE1, hE2, hE3, hE4, hF, hG, hH⟩))
/-! judge -/
theorem jg_M {N w n r : Nat} {kd se rk re rw : Nat → Nat} {kinds sets p1 readers eighths wishes F : Nat → Int32} {Φ : Int32 → (Nat → Int32) → Prop} {row : Nat → Option Nat} (hN : 100 < N) (hK : KS w kd se kinds sets) (hR : RW w n 12 row p1) (hD : RD r rk re rw readers eighths wishes) :
    ∀ (l i fuel : Nat), l < fuel → i + l = r → Φ (ansO (ag (rdRoad kd se rk re row n) rw l i)) F → lp_X12_judge_16 N (nI r) (nI n) F kinds sets readers eighths wishes p1 Φ fuel (nI i) := by
  have h6 := hD.1
  intro l
  induction l with
  | zero =>
    intro i fuel hf hi h
    obtain ⟨f, rfl⟩ : ∃ f, fuel = f + 1 := ⟨fuel - 1, by omega⟩
    rw [lp_X12_judge_16]
    exact br_t (nI_le (by omega) (by omega)) h
  | succ l ih =>
    intro i fuel hf hi h
    obtain ⟨f, rfl⟩ : ∃ f, fuel = f + 1 := ⟨fuel - 1, by omega⟩
    rw [lp_X12_judge_16]
    rw [ag] at h
    have hir : i < r := by omega
    obtain ⟨d1, d2, d3, d4, d5, d6⟩ := hD.2 i hir
    refine br_f (nI_ge (by omega) (by omega)) (rd_M hN hK hR hD hir ⟨in_nI (by omega) (by omega), ?_⟩)
    rw [nI_clamp (show i < 2 ^ 31 by omega), d3, nI_1]
    have hle := rdRoad_le hK hR hD hir
    by_cases he : rdRoad kd se rk re row n i = rw i
    · rw [if_pos he] at h
      exact br_t (by rw [he]) (ih (i + 1) f (by omega) (by omega) h)
    · rw [if_neg he] at h
      exact br_f (fun z => he ((nI_eq (by omega) (by omega)).mp z)) h
theorem op12 {N : Nat} (hN : 8000 < N) : zop12 N Inv := by
  intro vi fa wi ga hI
  obtain ⟨w, r, n, q, kd, se, gw, st, rk, re, rw, rg, pa, pb, t, e2, e3, e4, e5, m0, m1, m2, m3, c1, c7, hT, hT', hR, hR', hP, hP', hB, hC, hD, hE0, hE1, hE2, hE3, hE4, hF, hG, hH⟩ := hI
  obtain ⟨hK, hD6, -⟩ := id hT
  obtain ⟨hK', hD6', -⟩ := id hT'
  have hn := hR.1
  have hr6 := hD6.1
  rw [e2, e3, e4, m1, m2]
  refine br_c (fun c => ?_) (fun c => ?_)
  · exact ref_X r3 (br_t c (no_M r3 ⟨rfl, w, r, n, q, kd, se, gw, st, rk, re, rw, rg, pa, pb, t, (by first | exact e2 | rfl), (by first | exact e3 | rfl), (by first | exact e4 | rfl), (by first | exact e5 | rfl), (by first | exact m0 | rfl), (by first | exact m1 | rfl), (by first | exact m2 | rfl), (by first | exact m3 | rfl), (by first | exact c1 | rfl), (by first | exact c7 | rfl), hT, hT', hR, hR', hP, hP', RF_up hB r3, hC, hD, hE0, hE1, hE2, hE3, hE4, hF, hG, hH⟩))
  · refine fa_X (by omega) hK hR hD6 (br_f c ?_)
    exact jg_M (by omega) hK' hR' hD6' r 0 N (by omega) (by omega) ⟨rfl, w, r, n, q, kd, se, gw, st, rk, re, rw, rg, pa, pb, t, (by first | exact e2 | rfl), (by first | exact e3 | rfl), (by first | exact e4 | rfl), (by first | exact e5 | rfl), (by first | exact m0 | rfl), (by first | exact m1 | rfl), (by first | exact m2 | rfl), (by first | exact m3 | rfl), (by first | exact c1 | rfl), (by first | exact c7 | rfl), hT, hT', hR, hR', hP, hP', hB, hC, hD, hE0, hE1, hE2, hE3, hE4, hF, hG, hH⟩
/-! count -/
theorem bl_X {N n w : Nat} {rg : Nat → Option Nat} {f : Nat → Int32} {Φ : Int32 → Prop} (hR : RW w n 12 rg f) (hw : w ≤ 6) (hk : Φ (nI (bk rg n))) : ∀ (l i fuel : Nat), i + l = n → l < fuel → lp_X4_blanks_4 N (nI n) f Φ fuel (nI (bk rg i)) (nI i) := by
  have hn := hR.1
  intro l
  induction l with
  | zero =>
    intro i fuel hi hf
    obtain ⟨z, rfl⟩ : ∃ z, fuel = z + 1 := ⟨fuel - 1, by omega⟩
    rw [lp_X4_blanks_4]
    obtain rfl : i = n := by omega
    exact br_t (nI_le (by omega) (by omega)) hk
  | succ l ih =>
    intro i fuel hi hf
    obtain ⟨z, rfl⟩ : ∃ z, fuel = z + 1 := ⟨fuel - 1, by omega⟩
    obtain ⟨q1, q2⟩ := hR.2.2 i (by omega)
    have ih' := ih (i + 1) z (by omega) (by omega)
    rw [lp_X4_blanks_4, nI_clamp (show i < 2 ^ 31 by omega), q1, nI_1 i, nI_1 (bk rg i)]
    refine br_f (nI_ge (by omega) (by omega)) ⟨in_nI (by omega) (by omega), ?_⟩
    cases e : rg i with
    | none => rw [bk_none e] at ih'; exact br_t rfl ih'
    | some v => have := q2 v e; rw [bk_some e] at ih'; exact br_f (nI_m1 (show v < 2 ^ 31 by omega)) ih'
theorem bl_M {N n w : Nat} {rg : Nat → Option Nat} {f : Nat → Int32} {Φ : Int32 → Prop} (hR : RW w n 12 rg f) (hw : w ≤ 6) (hk : Φ (nI (bk rg n))) : ∀ (l i fuel : Nat), i + l = n → l < fuel → lp_X12_blanks_4 N (nI n) f Φ fuel (nI (bk rg i)) (nI i) := by
  have hn := hR.1
  intro l
  induction l with
  | zero =>
    intro i fuel hi hf
    obtain ⟨z, rfl⟩ : ∃ z, fuel = z + 1 := ⟨fuel - 1, by omega⟩
    rw [lp_X12_blanks_4]
    obtain rfl : i = n := by omega
    exact br_t (nI_le (by omega) (by omega)) hk
  | succ l ih =>
    intro i fuel hi hf
    obtain ⟨z, rfl⟩ : ∃ z, fuel = z + 1 := ⟨fuel - 1, by omega⟩
    obtain ⟨q1, q2⟩ := hR.2.2 i (by omega)
    have ih' := ih (i + 1) z (by omega) (by omega)
    rw [lp_X12_blanks_4, nI_clamp (show i < 2 ^ 31 by omega), q1, nI_1 i, nI_1 (bk rg i), nI_p0]
    refine br_f (nI_ge (by omega) (by omega)) ⟨in_nI (by omega) (by omega), ?_⟩
    cases e : rg i with
    | none => rw [bk_none e] at ih'; exact br_t rfl ih'
    | some v => have := q2 v e; rw [bk_some e] at ih'; exact br_f (nI_m1 (show v < 2 ^ 31 by omega)) ih'
theorem blanks_X {N n w : Nat} {rg : Nat → Option Nat} {f : Nat → Int32} {Φ : Int32 → Prop} (hN : 100 < N) (hR : RW w n 12 rg f) (hw : w ≤ 6) (hk : Φ (nI (bk rg n))) : wp_X4_blanks N (nI n) f Φ := by
  have hn := hR.1
  exact bl_X hR hw hk n 0 N (by omega) (by omega)
theorem blanks_M {N n w : Nat} {rg : Nat → Option Nat} {f : Nat → Int32} {Φ : Int32 → Prop} (hN : 100 < N) (hR : RW w n 12 rg f) (hw : w ≤ 6) (hk : Φ (nI (bk rg n))) : wp_X12_blanks N (nI n) f Φ := by
  have hn := hR.1
  exact bl_M hR hw hk n 0 N (by omega) (by omega)
def stS (f : Nat → Nat) : Nat → Nat → Int32 → Int32
  | 0, _, x => x
  | l + 1, p, x => stS f l (p + 1) (x + nI (f p))
theorem as_X {N w : Nat} {st : Nat → Nat} {f : Nat → Int32} {Φ : Int32 → Prop} (hw : w ≤ 6) (hf : ∀ v, v < w → f v = nI (st v)) : ∀ (l i fuel : Nat) (x : Int32), i + l = w → l < fuel → Φ (stS st l i x) → lp_X8_allStock_4 N (nI w) f Φ fuel x (nI i) := by
  intro l
  induction l with
  | zero =>
    intro i fuel x hi hfu h
    obtain ⟨z, rfl⟩ : ∃ z, fuel = z + 1 := ⟨fuel - 1, by omega⟩
    rw [lp_X8_allStock_4]
    exact br_t (nI_le (by omega) (by omega)) h
  | succ l ih =>
    intro i fuel x hi hfu h
    obtain ⟨z, rfl⟩ : ∃ z, fuel = z + 1 := ⟨fuel - 1, by omega⟩
    rw [lp_X8_allStock_4, nI_clamp (show i < 2 ^ 31 by omega), hf i (by omega), nI_1]
    exact br_f (nI_ge (by omega) (by omega)) ⟨in_nI (by omega) (by omega), ih (i + 1) z _ (by omega) (by omega) h⟩
theorem as_M {N w : Nat} {st : Nat → Nat} {f : Nat → Int32} {Φ : Int32 → Prop} (hw : w ≤ 6) (hf : ∀ v, v < w → f v = nI (st v)) : ∀ (l i fuel : Nat) (x : Int32), i + l = w → l < fuel → Φ (stS st l i x) → lp_X12_count_78 N (nI w) f Φ fuel x (nI i) := by
  intro l
  induction l with
  | zero =>
    intro i fuel x hi hfu h
    obtain ⟨z, rfl⟩ : ∃ z, fuel = z + 1 := ⟨fuel - 1, by omega⟩
    rw [lp_X12_count_78]
    exact br_t (nI_le (by omega) (by omega)) h
  | succ l ih =>
    intro i fuel x hi hfu h
    obtain ⟨z, rfl⟩ : ∃ z, fuel = z + 1 := ⟨fuel - 1, by omega⟩
    rw [lp_X12_count_78, nI_clamp (show i < 2 ^ 31 by omega), hf i (by omega), nI_1]
    exact br_f (nI_ge (by omega) (by omega)) ⟨in_nI (by omega) (by omega), ih (i + 1) z _ (by omega) (by omega) h⟩
theorem ref_at {x : Int32} (h1 : ¬ x < 11) (h2 : ¬ 16 < x) : vp_in (x - 10) 7 ∧ (x - 10).toNatClampNeg < 7 := by
  obtain ⟨j, hj, rfl⟩ := nI_of (x := x) (fun z => h1 (Int32.lt_iff_toInt_lt.mpr (by
    have h1 := Int32.lt_iff_toInt_lt.mp z
    have h0 : (0 : Int32).toInt = 0 := by decide
    have h11 : (11 : Int32).toInt = 11 := by decide
    omega)))
  have g1 : 11 ≤ j := by
    rcases Nat.lt_or_ge j 11 with z | z
    · exact absurd (nI_lt (b := 11) z (by omega)) h1
    · exact z
  have g2 : j ≤ 16 := by
    rcases Nat.lt_or_ge 16 j with z | z
    · exact absurd (nI_lt (a := 16) z (by omega)) h2
    · exact z
  have e : nI j - 10 = nI (j - 10) := pk_sub (b := 10) (by omega)
  rw [e, nI_clamp (by omega)]
  exact ⟨in_nI (by omega) (by omega), by omega⟩
theorem op29 {N : Nat} (hN : 8000 < N) : zop29 N Inv := by
  intro vi fa wi ga x1 hI
  have J := hI
  obtain ⟨w, r, n, q, kd, se, gw, st, rk, re, rw, rg, pa, pb, t, e2, e3, e4, e5, m0, m1, m2, m3, c1, c7, hT, hT', hR, hR', hP, hP', hB, hC, hD, hE0, hE1, hE2, hE3, hE4, hF, hG, hH⟩ := hI
  obtain ⟨⟨hw6, -, -⟩, -, hg⟩ := id hT
  obtain ⟨-, -, hg'⟩ := id hT'
  rw [e2, e3, e4, e5, m0, m1, m2, m3, c1, c7]
  by_cases h0 : x1 = 0
  · subst h0; exact ⟨fun _ => ⟨fun _ => ⟨rfl, J⟩, fun z => absurd z (by decide), fun z => absurd z (by decide), fun z => absurd z (by decide), fun z => absurd z (by decide), fun z => absurd z (by decide), fun z => absurd z (by decide), fun z0 z1 z2 z3 z4 z5 z6 => absurd rfl z0⟩, fun z => absurd z (by decide), fun z => absurd z (by decide), fun z => absurd z (by decide), fun z => absurd z (by decide), fun z => absurd z (by decide), fun z => absurd z (by decide), fun z0 z1 z2 z3 z4 z5 z6 => absurd rfl z0⟩
  by_cases h1 : x1 = 1
  · subst h1; exact ⟨fun z => absurd z (by decide), fun _ => ⟨fun z => absurd z (by decide), fun _ => ⟨rfl, J⟩, fun z => absurd z (by decide), fun z => absurd z (by decide), fun z => absurd z (by decide), fun z => absurd z (by decide), fun z => absurd z (by decide), fun z0 z1 z2 z3 z4 z5 z6 => absurd rfl z1⟩, fun z => absurd z (by decide), fun z => absurd z (by decide), fun z => absurd z (by decide), fun z => absurd z (by decide), fun z => absurd z (by decide), fun z0 z1 z2 z3 z4 z5 z6 => absurd rfl z1⟩
  by_cases h2 : x1 = 2
  · subst h2; exact ⟨fun z => absurd z (by decide), fun z => absurd z (by decide), fun _ => ⟨fun z => absurd z (by decide), fun z => absurd z (by decide), fun _ => ⟨rfl, J⟩, fun z => absurd z (by decide), fun z => absurd z (by decide), fun z => absurd z (by decide), fun z => absurd z (by decide), fun z0 z1 z2 z3 z4 z5 z6 => absurd rfl z2⟩, fun z => absurd z (by decide), fun z => absurd z (by decide), fun z => absurd z (by decide), fun z => absurd z (by decide), fun z0 z1 z2 z3 z4 z5 z6 => absurd rfl z2⟩
  by_cases h3 : x1 = 3
  · subst h3; exact ⟨fun z => absurd z (by decide), fun z => absurd z (by decide), fun z => absurd z (by decide), fun _ => blanks_X (by omega) hR hw6 ⟨fun z => absurd z (by decide), fun z => absurd z (by decide), fun z => absurd z (by decide), fun _ => blanks_M (by omega) hR' hw6 ⟨rfl, J⟩, fun z => absurd z (by decide), fun z => absurd z (by decide), fun z => absurd z (by decide), fun z0 z1 z2 z3 z4 z5 z6 => absurd rfl z3⟩, fun z => absurd z (by decide), fun z => absurd z (by decide), fun z => absurd z (by decide), fun z0 z1 z2 z3 z4 z5 z6 => absurd rfl z3⟩
  by_cases h4 : x1 = 4
  · subst h4; exact ⟨fun z => absurd z (by decide), fun z => absurd z (by decide), fun z => absurd z (by decide), fun z => absurd z (by decide), fun _ => ⟨fun z => absurd z (by decide), fun z => absurd z (by decide), fun z => absurd z (by decide), fun z => absurd z (by decide), fun _ => ⟨rfl, J⟩, fun z => absurd z (by decide), fun z => absurd z (by decide), fun z0 z1 z2 z3 z4 z5 z6 => absurd rfl z4⟩, fun z => absurd z (by decide), fun z => absurd z (by decide), fun z0 z1 z2 z3 z4 z5 z6 => absurd rfl z4⟩
  by_cases h5 : x1 = 5
  · subst h5; exact ⟨fun z => absurd z (by decide), fun z => absurd z (by decide), fun z => absurd z (by decide), fun z => absurd z (by decide), fun z => absurd z (by decide), fun _ => ⟨fun z => absurd z (by decide), fun z => absurd z (by decide), fun z => absurd z (by decide), fun z => absurd z (by decide), fun z => absurd z (by decide), fun _ => ⟨rfl, J⟩, fun z => absurd z (by decide), fun z0 z1 z2 z3 z4 z5 z6 => absurd rfl z5⟩, fun z => absurd z (by decide), fun z0 z1 z2 z3 z4 z5 z6 => absurd rfl z5⟩
  by_cases h6 : x1 = 6
  · subst h6
    have k : ∀ {Φ : Int32 → Prop}, Φ (stS st w 0 0) → wp_X8_allStock N (nI w) (fa 4) Φ := fun h => as_X hw6 (fun v hv => (hg v hv).2.2.1) w 0 N 0 (by omega) (by omega) h
    exact ⟨fun z => absurd z (by decide), fun z => absurd z (by decide), fun z => absurd z (by decide), fun z => absurd z (by decide), fun z => absurd z (by decide), fun z => absurd z (by decide), fun _ => k ⟨fun z => absurd z (by decide), fun z => absurd z (by decide), fun z => absurd z (by decide), fun z => absurd z (by decide), fun z => absurd z (by decide), fun z => absurd z (by decide), fun _ => as_M hw6 (fun v hv => (hg' v hv).2.2.1) w 0 N 0 (by omega) (by omega) ⟨rfl, J⟩, fun z0 z1 z2 z3 z4 z5 z6 => absurd rfl z6⟩, fun z0 z1 z2 z3 z4 z5 z6 => absurd rfl z6⟩
  refine ⟨fun z => absurd z h0, fun z => absurd z h1, fun z => absurd z h2, fun z => absurd z h3, fun z => absurd z h4, fun z => absurd z h5, fun z => absurd z h6, fun _ _ _ _ _ _ _ => br_c (fun a => ?_) (fun a => br_c (fun b => ?_) (fun b => ⟨(ref_at a b).1, ?_⟩))⟩
  · exact ⟨fun z => absurd z h0, fun z => absurd z h1, fun z => absurd z h2, fun z => absurd z h3, fun z => absurd z h4, fun z => absurd z h5, fun z => absurd z h6, fun _ _ _ _ _ _ _ => br_t a ⟨rfl, J⟩⟩
  · exact ⟨fun z => absurd z h0, fun z => absurd z h1, fun z => absurd z h2, fun z => absurd z h3, fun z => absurd z h4, fun z => absurd z h5, fun z => absurd z h6, fun _ _ _ _ _ _ _ => br_f a (br_t b ⟨rfl, J⟩)⟩
  · exact ⟨fun z => absurd z h0, fun z => absurd z h1, fun z => absurd z h2, fun z => absurd z h3, fun z => absurd z h4, fun z => absurd z h5, fun z => absurd z h6, fun _ _ _ _ _ _ _ => br_f a (br_f b ⟨(ref_at a b).1, hB _ (ref_at a b).2, J⟩)⟩
/-! pair -/
theorem has_X {N q a b : Nat} {pa pb : Nat → Nat} {f g : Nat → Int32} {Φ : Int32 → Prop} {w : Nat} (hP : PR w q pa pb f g) (hw : w ≤ 6) (ha : a < 6) (hb : b < 6) (h1 : ∀ i, i < q → pa i = a → pb i = b → Φ 1) (h0 : (∀ i, i < q → ¬ (pa i = a ∧ pb i = b)) → Φ 0) :
    ∀ (l i fuel : Nat), i + l = q → l < fuel → (∀ j, j < i → ¬ (pa j = a ∧ pb j = b)) → lp_X3_has_2 N (nI a) (nI b) (nI q) f g Φ fuel (nI i) := by
  obtain ⟨hq, hv, -⟩ := hP
  intro l
  induction l with
  | zero =>
    intro i fuel hi hf h
    obtain ⟨z, rfl⟩ : ∃ z, fuel = z + 1 := ⟨fuel - 1, by omega⟩
    rw [lp_X3_has_2]
    obtain rfl : i = q := by omega
    exact br_t (nI_le (by omega) (by omega)) (h0 h)
  | succ l ih =>
    intro i fuel hi hf h
    obtain ⟨z, rfl⟩ : ∃ z, fuel = z + 1 := ⟨fuel - 1, by omega⟩
    obtain ⟨v1, v2, v3, v4⟩ := hv i (by omega)
    rw [lp_X3_has_2, nI_clamp (show i < 2 ^ 31 by omega), v1, v2, nI_1]
    have v12 : vp_in (nI i) 12 := in_nI (by omega) (by omega)
    refine br_f (nI_ge (by omega) (by omega)) ⟨v12, ?_⟩
    have go : ¬ (pa i = a ∧ pb i = b) → lp_X3_has_2 N (nI a) (nI b) (nI q) f g Φ z (nI (i + 1)) := fun e => ih (i + 1) z (by omega) (by omega) (fun j hj => by
      rcases Nat.lt_or_ge j i with c | c
      · exact h j c
      · rw [show j = i by omega]; exact e)
    refine br_c (fun c => ⟨v12, br_c (fun d => ?_) (fun d => ?_)⟩) (fun c => ?_)
    · exact h1 i (by omega) ((nI_eq (by omega) (by omega)).mp c) ((nI_eq (by omega) (by omega)).mp d)
    · exact go (fun e => d (by rw [e.2]))
    · exact go (fun e => c (by rw [e.1]))
theorem has_M {N q a b : Nat} {pa pb : Nat → Nat} {f g : Nat → Int32} {Φ : Int32 → Int32 → (Nat → Int32) → (Nat → Int32) → (Nat → Int32) → Prop} {k65 k52 : Prop} {w : Nat} (hP : PR w q pa pb f g) (hw : w ≤ 6) (ha : a < 6) (hb : b < 6) (h1 : ∀ i, i < q → pa i = a → pb i = b → k52) (h0 : (∀ i, i < q → ¬ (pa i = a ∧ pb i = b)) → k65) :
    ∀ (l i fuel : Nat), i + l = q → l < fuel → (∀ j, j < i → ¬ (pa j = a ∧ pb j = b)) → lp_X12_pair_24 N (nI a) (nI b) (nI q) f g Φ k65 k52 fuel (nI i) := by
  obtain ⟨hq, hv, -⟩ := hP
  intro l
  induction l with
  | zero =>
    intro i fuel hi hf h
    obtain ⟨z, rfl⟩ : ∃ z, fuel = z + 1 := ⟨fuel - 1, by omega⟩
    rw [lp_X12_pair_24]
    obtain rfl : i = q := by omega
    exact br_t (nI_le (by omega) (by omega)) (h0 h)
  | succ l ih =>
    intro i fuel hi hf h
    obtain ⟨z, rfl⟩ : ∃ z, fuel = z + 1 := ⟨fuel - 1, by omega⟩
    obtain ⟨v1, v2, v3, v4⟩ := hv i (by omega)
    rw [lp_X12_pair_24, nI_clamp (show i < 2 ^ 31 by omega), v1, v2, nI_1]
    have v12 : vp_in (nI i) 12 := in_nI (by omega) (by omega)
    refine br_f (nI_ge (by omega) (by omega)) ⟨v12, ?_⟩
    have go : ¬ (pa i = a ∧ pb i = b) → lp_X12_pair_24 N (nI a) (nI b) (nI q) f g Φ k65 k52 z (nI (i + 1)) := fun e => ih (i + 1) z (by omega) (by omega) (fun j hj => by
      rcases Nat.lt_or_ge j i with c | c
      · exact h j c
      · rw [show j = i by omega]; exact e)
    refine br_c (fun c => ⟨v12, br_c (fun d => ?_) (fun d => ?_)⟩) (fun c => ?_)
    · exact h1 i (by omega) ((nI_eq (by omega) (by omega)).mp c) ((nI_eq (by omega) (by omega)).mp d)
    · exact go (fun e => d (by rw [e.2]))
    · exact go (fun e => c (by rw [e.1]))
theorem PR_add {w q a b : Nat} {pa pb : Nat → Nat} {f g : Nat → Int32} (hP : PR w q pa pb f g) (hq : q < 12) (ha : a < w) (hb : b < w) (hno : ∀ i, i < q → ¬ (pa i = a ∧ pb i = b)) : PR w (q + 1) (va_up pa q a) (va_up pb q b) (upd f q (nI a)) (upd g q (nI b)) := by
  obtain ⟨h1, h2, h3⟩ := hP
  refine ⟨by omega, fun i hi => ?_, fun i j hij hj => ?_⟩
  · by_cases e : i = q
    · subst e; rw [pk_us, pk_us, vu_s, vu_s]; exact ⟨rfl, rfl, ha, hb⟩
    · rw [pk_un e, pk_un e, vu_n e, vu_n e]; exact h2 i (by omega)
  · rw [vu_n (show i ≠ q by omega), vu_n (show i ≠ q by omega)]
    by_cases e : j = q
    · subst e; rw [vu_s, vu_s]; exact hno i hij
    · rw [vu_n e, vu_n e]; exact h3 i j hij (by omega)
theorem op22 {N : Nat} (hN : 8000 < N) : zop22 N Inv := by
  intro vi fa wi ga x1 x2 hI
  obtain ⟨w, r, n, q, kd, se, gw, st, rk, re, rw, rg, pa, pb, t, e2, e3, e4, e5, m0, m1, m2, m3, c1, c7, hT, hT', hR, hR', hP, hP', hB, hC, hD, hE0, hE1, hE2, hE3, hE4, hF, hG, hH⟩ := hI
  have hw6 := hT.1.1
  have hq := hP.1
  rw [e2, e5, m0, m3]
  rcases out x1 (n := w) (by omega) with h | ⟨a, ha, rfl⟩
  · exact hw_out h (br_t rfl (ref_X r1 (nw_out h (br_f (by decide) (no_M r1 ⟨rfl, w, r, n, q, kd, se, gw, st, rk, re, rw, rg, pa, pb, t, (by first | exact e2 | rfl), (by first | exact e3 | rfl), (by first | exact e4 | rfl), (by first | exact e5 | rfl), (by first | exact m0 | rfl), (by first | exact m1 | rfl), (by first | exact m2 | rfl), (by first | exact m3 | rfl), (by first | exact c1 | rfl), (by first | exact c7 | rfl), hT, hT', hR, hR', hP, hP', RF_up hB r1, hC, hD, hE0, hE1, hE2, hE3, hE4, hF, hG, hH⟩)))))
  rcases out x2 (n := w) (by omega) with h | ⟨b, hb, rfl⟩
  · exact hw_some ha (by omega) (br_f (by decide) (hw_out h (br_t rfl (ref_X r1 (nw_some ha (by omega) (br_t rfl (nw_out h (br_f (by decide) (no_M r1 ⟨rfl, w, r, n, q, kd, se, gw, st, rk, re, rw, rg, pa, pb, t, (by first | exact e2 | rfl), (by first | exact e3 | rfl), (by first | exact e4 | rfl), (by first | exact e5 | rfl), (by first | exact m0 | rfl), (by first | exact m1 | rfl), (by first | exact m2 | rfl), (by first | exact m3 | rfl), (by first | exact c1 | rfl), (by first | exact c7 | rfl), hT, hT', hR, hR', hP, hP', RF_up hB r1, hC, hD, hE0, hE1, hE2, hE3, hE4, hF, hG, hH⟩)))))))))
  refine hw_some ha (by omega) (br_f (by decide) (hw_some hb (by omega) (br_f (by decide) ?_)))
  refine has_X hP hw6 (by omega) (by omega) (fun i hi y1 y2 => ?_) (fun hno => ?_) q 0 N (by omega) (by omega) (fun j hj => by omega)
  · refine br_f (by decide) (ref_X r3 (nw_some ha (by omega) (br_t rfl (nw_some hb (by omega) (br_t rfl ?_)))))
    refine has_M hP' hw6 (by omega) (by omega) (fun i' hi' z1 z2 => ?_) (fun hno => absurd ⟨y1, y2⟩ (hno i hi)) q 0 N (by omega) (by omega) (fun j hj => by omega)
    exact no_M r3 ⟨rfl, w, r, n, q, kd, se, gw, st, rk, re, rw, rg, pa, pb, t, (by first | exact e2 | rfl), (by first | exact e3 | rfl), (by first | exact e4 | rfl), (by first | exact e5 | rfl), (by first | exact m0 | rfl), (by first | exact m1 | rfl), (by first | exact m2 | rfl), (by first | exact m3 | rfl), (by first | exact c1 | rfl), (by first | exact c7 | rfl), hT, hT', hR, hR', hP, hP', RF_up hB r3, hC, hD, hE0, hE1, hE2, hE3, hE4, hF, hG, hH⟩
  · refine br_t rfl ?_
    have cl : (nI q).toNatClampNeg = q := nI_clamp (by omega)
    rcases Nat.lt_or_ge q 12 with h12 | h12
    · have v12 : vp_in (nI q) 12 := in_nI h12 (by omega)
      have ne12 : ¬ nI q = 12 := fun z => by have := (nI_eq (b := 12) (by omega) (by omega)).mp z; omega
      refine br_t (nI_lt (b := 12) h12 (by omega)) (br_f (nI_ge (b := 12) h12 (by omega)) ⟨v12, v12, ?_⟩)
      rw [nI_1, cl]
      refine nw_some ha (by omega) (br_t rfl (nw_some hb (by omega) (br_t rfl ?_)))
      refine has_M hP' hw6 (by omega) (by omega) (fun i' hi' z1 z2 => absurd ⟨z1, z2⟩ (hno i' hi')) (fun _ => br_f ne12 ⟨v12, v12, ?_⟩) q 0 N (by omega) (by omega) (fun j hj => by omega)
      rw [nI_1, cl]
      exact ⟨rfl, w, r, n, q + 1, kd, se, gw, st, rk, re, rw, rg, va_up pa q a, va_up pb q b, t, (by first | exact e2 | rfl), (by first | exact e3 | rfl), (by first | exact e4 | rfl), (by first | exact e5 | rfl), (by first | exact m0 | rfl), (by first | exact m1 | rfl), (by first | exact m2 | rfl), (by first | exact m3 | rfl), (by first | exact c1 | rfl), (by first | exact c7 | rfl), hT, hT', hR, hR', PR_add hP h12 ha hb hno, PR_add hP' h12 ha hb hno, hB, hC, hD, hE0, hE1, hE2, hE3, hE4, hF, hG, hH⟩
    · obtain rfl : q = 12 := by omega
      refine br_f (by decide) (ref_X r6 (nw_some ha (by omega) (br_t rfl (nw_some hb (by omega) (br_t rfl ?_)))))
      refine has_M hP' hw6 (by omega) (by omega) (fun i' hi' z1 z2 => absurd ⟨z1, z2⟩ (hno i' hi')) (fun _ => br_t rfl ?_) 12 0 N (by omega) (by omega) (fun j hj => by omega)
      exact no_M r6 ⟨rfl, w, r, n, 12, kd, se, gw, st, rk, re, rw, rg, pa, pb, t, (by first | exact e2 | rfl), (by first | exact e3 | rfl), (by first | exact e4 | rfl), (by first | exact e5 | rfl), (by first | exact m0 | rfl), (by first | exact m1 | rfl), (by first | exact m2 | rfl), (by first | exact m3 | rfl), (by first | exact c1 | rfl), (by first | exact c7 | rfl), hT, hT', hR, hR', hP, hP', RF_up hB r6, hC, hD, hE0, hE1, hE2, hE3, hE4, hF, hG, hH⟩
