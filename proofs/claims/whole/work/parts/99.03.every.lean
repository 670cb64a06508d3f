/-! every: leaving and coming, then the search -/
theorem df_add (a b : Nat) : nI a - nI b + 1 = nI (a + 1) - nI b := by
  rw [Int32.sub_eq_add_neg, Int32.add_assoc, Int32.add_comm (-nI b) 1, ← Int32.add_assoc, nI_1, ← Int32.sub_eq_add_neg]
theorem df_sub (a b : Nat) : nI a - nI b - 1 = nI a - nI (b + 1) := by
  rw [Int32.sub_sub, nI_1]
theorem df_0 {a b : Nat} (ha : a < 2 ^ 31) (hb : b < 2 ^ 31) : nI a - nI b = 0 ↔ a = b := by
  rw [Int32.sub_eq_iff_eq_add, Int32.zero_add]
  exact nI_eq ha hb
def oc (pa : Nat → Nat) (a j : Nat) : Nat := cnt (fun k => decide (pa k = a)) j
theorem oc_le (pa : Nat → Nat) (a j : Nat) : oc pa a j ≤ j := cnt_le _ j
theorem oc_1 {pa : Nat → Nat} {a j : Nat} (h : pa j = a) : oc pa a (j + 1) = oc pa a j + 1 := by
  unfold oc; rw [cnt, decide_eq_true h]; rfl
theorem oc_n {pa : Nat → Nat} {a j : Nat} (h : ¬ pa j = a) : oc pa a (j + 1) = oc pa a j := by
  unfold oc; rw [cnt, decide_eq_false h]; rfl
theorem bl_run {N w q : Nat} {pa pb : Nat → Nat} {ones others : Nat → Int32} {Φ : Int32 → (Nat → Int32) → Prop} {k : (Nat → Int32) → Prop} (hw : w ≤ 6) (hP : PR w q pa pb ones others) (hk : ∀ F, (∀ a, a < 6 → F a = nI (oc pa a q) - nI (oc pb a q)) → k F) :
    ∀ (l i fuel : Nat) (F : Nat → Int32), i + l = q → l < fuel → (∀ a, a < 6 → F a = nI (oc pa a i) - nI (oc pb a i)) → lp_X0_isBalanced_10 N (nI q) ones others Φ k fuel (nI i) F := by
  obtain ⟨hq, hv, -⟩ := hP
  intro l
  induction l with
  | zero =>
    intro i fuel F hi hf h
    obtain ⟨z, rfl⟩ : ∃ z, fuel = z + 1 := ⟨fuel - 1, by omega⟩
    rw [lp_X0_isBalanced_10]
    obtain rfl : i = q := by omega
    exact br_t (nI_le (by omega) (by omega)) (hk F h)
  | succ l ih =>
    intro i fuel F hi hf h
    obtain ⟨z, rfl⟩ : ∃ z, fuel = z + 1 := ⟨fuel - 1, by omega⟩
    obtain ⟨a1, a2, a3, a4⟩ := hv i (by omega)
    have v12 : vp_in (nI i) 12 := in_nI (by omega) (by omega)
    have va : vp_in (nI (pa i)) 6 := in_nI (by omega) (by omega)
    have vb : vp_in (nI (pb i)) 6 := in_nI (by omega) (by omega)
    rw [lp_X0_isBalanced_10, nI_1 i, nI_clamp (show i < 2 ^ 31 by omega), a1, a2, nI_clamp (show pa i < 2 ^ 31 by omega), nI_clamp (show pb i < 2 ^ 31 by omega)]
    refine br_f (nI_ge (by omega) (by omega)) ⟨v12, va, va, v12, vb, vb, ih (i + 1) z _ (by omega) (by omega) (fun a ha => ?_)⟩
    by_cases e1 : pa i = a
    · by_cases e2 : pb i = a
      · rw [e1, e2, pk_us, pk_us, h a ha, df_add, df_sub, oc_1 e1, oc_1 e2]
      · rw [pk_un (fun y => e2 y.symm), e1, pk_us, h a ha, df_add, oc_1 e1, oc_n e2]
    · by_cases e2 : pb i = a
      · rw [e2, pk_us, pk_un (fun y => e1 y.symm), h a ha, df_sub, oc_n e1, oc_1 e2]
      · rw [pk_un (fun y => e2 y.symm), pk_un (fun y => e1 y.symm), h a ha, oc_n e1, oc_n e2]
theorem bl_end {N : Nat} {F : Nat → Int32} {Φ : Int32 → (Nat → Int32) → Prop} (h1 : (∀ a, a < 6 → F a = 0) → Φ 1 F) (h0 : (¬ ∀ a, a < 6 → F a = 0) → Φ 0 F) :
    ∀ (l i fuel : Nat), i + l = 6 → l < fuel → (∀ a, a < i → F a = 0) → lp_X0_isBalanced_56 N F Φ fuel (nI i) := by
  intro l
  induction l with
  | zero =>
    intro i fuel hi hf h
    obtain ⟨z, rfl⟩ : ∃ z, fuel = z + 1 := ⟨fuel - 1, by omega⟩
    rw [lp_X0_isBalanced_56]
    exact br_t (nI_le (a := 6) (by omega) (by omega)) (h1 (fun a ha => h a (by omega)))
  | succ l ih =>
    intro i fuel hi hf h
    obtain ⟨z, rfl⟩ : ∃ z, fuel = z + 1 := ⟨fuel - 1, by omega⟩
    rw [lp_X0_isBalanced_56, nI_1 i, nI_clamp (show i < 2 ^ 31 by omega)]
    refine br_f (nI_ge (b := 6) (by omega) (by omega)) ⟨in_nI (by omega) (by omega), br_c (fun c => ih (i + 1) z (by omega) (by omega) (fun a ha => ?_)) (fun c => h0 (fun y => c (y i (by omega))))⟩
    rcases Nat.lt_or_ge a i with y | y
    · exact h a y
    · rw [show a = i by omega]; exact c
theorem bal_X {N w q : Nat} {pa pb : Nat → Nat} {ones others F0 : Nat → Int32} {Φ : Int32 → (Nat → Int32) → Prop} (hN : 100 < N) (hw : w ≤ 6) (hP : PR w q pa pb ones others) (h1 : ∀ F, (∀ a, a < 6 → oc pa a q = oc pb a q) → Φ 1 F) (h0 : ∀ F, (¬ ∀ a, a < 6 → oc pa a q = oc pb a q) → Φ 0 F) : wp_X0_isBalanced N F0 (nI q) ones others Φ := by
  have hq := hP.1
  refine fill_J (by omega) (by omega) (fun F1 hF1 => ?_)
  refine bl_run hw hP (fun F hF => ?_) q 0 N F1 (by omega) (by omega) (fun a ha => ?_)
  · unfold ex_X0_isBalanced_54
    have key : (∀ a, a < 6 → F a = 0) ↔ ∀ a, a < 6 → oc pa a q = oc pb a q := by
      constructor
      · intro h a ha
        have := h a ha
        rw [hF a ha] at this
        have l1 := oc_le pa a q
        have l2 := oc_le pb a q
        exact (df_0 (by omega) (by omega)).mp this
      · intro h a ha
        rw [hF a ha]
        have l1 := oc_le pa a q
        have l2 := oc_le pb a q
        exact (df_0 (by omega) (by omega)).mpr (h a ha)
    exact bl_end (fun y => h1 F (key.mp y)) (fun y => h0 F (fun y2 => y (key.mpr y2))) 6 0 N (by omega) (by omega) (fun a ha => by omega)
  · rw [hF1 a ha]
    show (0 : Int32) = nI 0 - nI 0
    decide
/-- the pairs behind the first laid out -/
theorem bh_run {N w q : Nat} {pa pb : Nat → Nat} {ones others : Nat → Int32} {Φ : Int32 → (Nat → Int32) → (Nat → Int32) → Prop} {k : (Nat → Int32) → Prop} (hw : w ≤ 6) (hP : PR w q pa pb ones others) (hk : ∀ F, BH pa pb q U1 F → k F) :
    ∀ (l i fuel : Nat) (F : Nat → Int32), i + l = q → 1 ≤ i → l < fuel → BH pa pb i U1 F → lp_X0_close_28 N (nI q) ones others Φ k fuel (nI i) F := by
  obtain ⟨hq, hv, -⟩ := hP
  intro l
  induction l with
  | zero =>
    intro i fuel F hi hi1 hf h
    obtain ⟨z, rfl⟩ : ∃ z, fuel = z + 1 := ⟨fuel - 1, by omega⟩
    rw [lp_X0_close_28]
    obtain rfl : i = q := by omega
    exact br_t (nI_le (by omega) (by omega)) (hk F h)
  | succ l ih =>
    intro i fuel F hi hi1 hf h
    obtain ⟨z, rfl⟩ : ∃ z, fuel = z + 1 := ⟨fuel - 1, by omega⟩
    obtain ⟨a1, a2, a3, a4⟩ := hv i (by omega)
    have v12 : vp_in (nI i) 12 := in_nI (by omega) (by omega)
    have va : vp_in (nI (pa i)) 6 := in_nI (by omega) (by omega)
    rw [lp_X0_close_28, nI_1 i, nI_clamp (show i < 2 ^ 31 by omega), a1, a2, nI_clamp (show pa i < 2 ^ 31 by omega), sh1 _ (by omega)]
    refine br_f (nI_ge (by omega) (by omega)) ⟨v12, va, v12, va, ih (i + 1) z _ (by omega) (by omega) (by omega) (fun a ha => ?_)⟩
    obtain ⟨M, m1, m2, m3⟩ := h a ha
    have hu : U1 i = false := decide_eq_false (by omega)
    by_cases e : a = pa i
    · subst e
      have hp : 2 ^ pb i < 2 ^ 6 := Nat.pow_lt_pow_right (by omega) (by omega)
      refine ⟨M ||| 2 ^ pb i, or_bound (k := 6) m1 (by omega), by rw [pk_us, m2, nI_or _ _ (by omega) (by omega)], fun v => ?_⟩
      rw [tb_or, Bool.or_eq_true, m3, decide_eq_true_iff]
      constructor
      · rintro (⟨k, k1, k2⟩ | y)
        · exact ⟨k, by omega, k2⟩
        · exact ⟨i, by omega, hu, rfl, y⟩
      · rintro ⟨k, k1, k2, k3, k4⟩
        rcases Nat.lt_or_ge k i with y | y
        · exact Or.inl ⟨k, y, k2, k3, k4⟩
        · rw [show k = i by omega] at k4; exact Or.inr k4
    · refine ⟨M, m1, by rw [pk_un e]; exact m2, fun v => ?_⟩
      rw [m3]
      constructor
      · rintro ⟨k, k1, k2⟩
        exact ⟨k, by omega, k2⟩
      · rintro ⟨k, k1, k2, k3, k4⟩
        rcases Nat.lt_or_ge k i with y | y
        · exact ⟨k, y, k2, k3, k4⟩
        · rw [show k = i by omega] at k3; exact absurd k3.symm e
theorem PR_dis {w q : Nat} {pa pb : Nat → Nat} {f g : Nat → Int32} (hP : PR w q pa pb f g) : Dis pa pb q := by
  obtain ⟨-, -, h⟩ := hP
  intro i j hi hj h1 h2
  rcases Nat.lt_trichotomy i j with y | y | y
  · exact absurd ⟨h1, h2⟩ (h i j y hj)
  · exact y
  · exact absurd ⟨h1.symm, h2.symm⟩ (h j i y hi)
theorem close_X {N w q : Nat} {pa pb : Nat → Nat} {ones others ring0 behind0 : Nat → Int32} {Φ : Int32 → (Nat → Int32) → (Nat → Int32) → Prop} (hN : 100 < N) (hw : w ≤ 6) (hP : PR w q pa pb ones others) (hq0 : 0 < q)
    (h1 : ∀ L ring behind, sr pa pb w q (q - 1) (pb 0) U1 = some L → ring 0 = nI (pa 0) → (∀ j, j < q - 1 → ring (1 + j) = nI ((pb 0 :: L).getD j 0)) → Φ 1 ring behind)
    (h0 : sr pa pb w q (q - 1) (pb 0) U1 = none → ∀ ring behind, Φ 0 ring behind) : wp_X0_close N ring0 behind0 (nI q) ones others Φ := by
  have hq := hP.1
  have hv := hP.2.1
  have v0 := hv 0 hq0
  unfold wp_X0_close
  refine br_f (nI_nlt (b := 1) hq0 (by omega)) (bal_X hN hw hP (fun F hb => ?_) (fun F hb => ?_))
  · refine br_f (by decide) (fill_J (by omega) (by omega) (fun F1 hF1 => ?_))
    refine bh_run hw hP (fun F2 hB => ?_) (q - 1) 1 N F1 (by omega) (by omega) (by omega) (fun a ha => ⟨0, by omega, hF1 a ha, fun v => ?_⟩)
    · unfold ex_X0_close_64
      rw [show Int32.toNatClampNeg 0 = 0 by decide, v0.1, v0.2.1]
      refine go_X hN hw hq (fun k hk => (hv k hk).2.2) (PR_dis hP) hq0 (q - 1) 16 (pb 0) 1 U1 _ F2 _ (by omega) (by omega) (by omega) (by omega) hB pk_us (fun L ring behind hL r1 r2 => ⟨Or.inr rfl, h1 L ring behind hL ?_ r2⟩) (fun hL ring behind _ _ => ⟨Or.inl rfl, h0 hL ring behind⟩)
      rw [r1 0 (by omega), pk_us]
    · simp only [Nat.zero_testBit, Bool.false_eq_true, false_iff]
      rintro ⟨k, k1, k2, -⟩
      rw [show k = 0 by omega] at k2
      cases k2
  · refine br_t rfl (h0 ?_ _ _)
    cases e : sr pa pb w q (q - 1) (pb 0) U1 with
    | none => rfl
    | some L => exact absurd (fun a _ => bal hq0 e a) hb
set_option maxHeartbeats 4000000 in
theorem op23 {N : Nat} (hN : 8000 < N) : zop23 N Inv := by
  intro vi fa wi ga x1 hI
  obtain ⟨w, r, n, q, kd, se, gw, st, rk, re, rw, rg, pa, pb, t, e2, e3, e4, e5, m0, m1, m2, m3, c1, c7, hT, hT', hR, hR', hP, hP', hB, hC, hD, hE0, hE1, hE2, hE3, hE4, hF, hG, hH⟩ := hI
  have hw6 := hT.1.1
  have hq := hP.1
  rw [e5, m0, m3]
  by_cases c : -1 ≤ x1
  · refine br_t c ?_
    rcases Nat.eq_zero_or_pos q with e | hq0
    · subst e
      exact br_t rfl (ref_X r3 (br_t c (br_t rfl (no_M r3 ⟨rfl, w, r, n, 0, kd, se, gw, st, rk, re, rw, rg, pa, pb, t, (by first | exact e2 | rfl), (by first | exact e3 | rfl), (by first | exact e4 | rfl), (by first | exact e5 | rfl), (by first | exact m0 | rfl), (by first | exact m1 | rfl), (by first | exact m2 | rfl), (by first | exact m3 | rfl), (by first | exact c1 | rfl), (by first | exact c7 | rfl), hT, hT', hR, hR', hP, hP', RF_up hB r3, hC, hD, hE0, hE1, hE2, hE3, hE4, hF, hG, hH⟩))))
    · have ne0 : ¬ nI q = 0 := nI_ne0 hq0 (by omega)
      have v0' := hP'.2.1 0 hq0
      -- what the reference's search answers
      have mm : ∀ {Φ : Int32 → (Nat → Int32) → (Nat → Int32) → Prop}, (∀ L round, sr pa pb w q (q - 1) (pb 0) U1 = some L → round 0 = nI (pa 0) → (∀ j, j < q - 1 → round (1 + j) = nI ((pb 0 :: L).getD j 0)) → ((0 ≤ x1 → (nI q ≤ x1 → Φ (-9) (ga 0) round) ∧ (¬ nI q ≤ x1 → vp_in x1 13 ∧ Φ (round (Int32.toNatClampNeg x1)) (ga 0) round)) ∧ (¬ 0 ≤ x1 → Φ (nI q) (ga 0) round))) →
          (sr pa pb w q (q - 1) (pb 0) U1 = none → ∀ round, ((0 ≤ x1 → Φ (-9) (ga 0) round) ∧ (¬ 0 ≤ x1 → Φ 0 (ga 0) round))) → wp_X12_every N x1 (nI w) (nI q) (ga 0) (ga 9) (ga 10) (ga 21) Φ := by
        intro Φ k1 k0
        refine br_t c (br_f ne0 ?_)
        rw [show Int32.toNatClampNeg 0 = 0 by decide, show Int32.toNatClampNeg 1 = 1 by decide, v0'.1, v0'.2.1]
        refine ro_M (by omega) hw6 hP' (PR_dis hP') hq0 (q - 1) 16 (pb 0) 1 1 U1 _ _ (by omega) (by omega) (by omega) (by omega) ⟨by omega, fun k hk => ?_⟩ ?_ pk_us (fun L round hL q1 q2 => ?_) (fun hL round q1 => ?_)
        · rw [show (1 : Nat) = 2 ^ 0 from rfl, Nat.testBit_two_pow]
          unfold U1
          by_cases y : k = 0
          · subst y; rfl
          · rw [decide_eq_false y, decide_eq_false (fun z => y z.symm)]
        · rw [pk_un (by omega), pk_us]
        · have := k1 L round hL (by rw [q1 0 (by omega), pk_un (by omega), pk_us]) (fun j hj => by
            cases j with
            | zero => rw [show 1 + 0 = 1 by omega, q1 1 (by omega), pk_us]; rfl
            | succ j => rw [show 1 + (j + 1) = 1 + 1 + j by omega, q2 j (by omega)]; rfl)
          exact br_c (fun a => br_f (by decide) (this.1 a)) (fun a => br_f (by decide) (this.2 a))
        · have := k0 hL round
          exact br_c (fun a => br_t rfl (this.1 a)) (fun a => br_t rfl (this.2 a))
      refine br_f ne0 (close_X (by omega) hw6 hP hq0 (fun L ring behind hL g1 g2 => br_f (by decide) ?_) (fun hL ring behind => br_t rfl ?_))
      · rcases m1_or c with rfl | ⟨i, hi, rfl⟩
        · refine br_t rfl (mm (fun L' round hL' k1 k2 => br_f (by decide) ⟨rfl, w, r, n, q, kd, se, gw, st, rk, re, rw, rg, pa, pb, t, (by first | exact e2 | rfl), (by first | exact e3 | rfl), (by first | exact e4 | rfl), (by first | exact e5 | rfl), (by first | exact m0 | rfl), (by first | exact m1 | rfl), (by first | exact m2 | rfl), (by first | exact m3 | rfl), (by first | exact c1 | rfl), (by first | exact c7 | rfl), hT, hT', hR, hR', hP, hP', hB, hC, hD, hE0, hE1, hE2, hE3, hE4, hF, hG, hH⟩) (fun hL' => ?_))
          rw [hL] at hL'; cases hL'
        · have p0 : 0 ≤ nI i := nI_pos' hi
          refine br_f (nI_m1 hi) (br_c (fun d => ?_) (fun d => ?_))
          · refine mm (fun L' round hL' k1 k2 => br_t p0 (br_t d ⟨rfl, w, r, n, q, kd, se, gw, st, rk, re, rw, rg, pa, pb, t, (by first | exact e2 | rfl), (by first | exact e3 | rfl), (by first | exact e4 | rfl), (by first | exact e5 | rfl), (by first | exact m0 | rfl), (by first | exact m1 | rfl), (by first | exact m2 | rfl), (by first | exact m3 | rfl), (by first | exact c1 | rfl), (by first | exact c7 | rfl), hT, hT', hR, hR', hP, hP', hB, hC, hD, hE0, hE1, hE2, hE3, hE4, hF, hG, hH⟩)) (fun hL' => ?_)
            rw [hL] at hL'; cases hL'
          · have hiq : i < q := by
              rcases Nat.lt_or_ge i q with y | y
              · exact y
              · exact absurd (nI_le y hi) d
            rw [nI_clamp hi]
            refine ⟨in_nI (by omega) (by omega), mm (fun L' round hL' k1 k2 => br_t p0 (br_f d ⟨in_nI (by omega) (by omega), ?_⟩)) (fun hL' => ?_)⟩
            · rw [hL] at hL'; cases hL'
              have he : ring i = round i := by
                rcases Nat.eq_zero_or_pos i with y | y
                · rw [y, g1, k1]
                · rw [show i = 1 + (i - 1) by omega, g2 _ (by omega), k2 _ (by omega)]
              rw [nI_clamp hi]
              exact ⟨he, w, r, n, q, kd, se, gw, st, rk, re, rw, rg, pa, pb, t, (by first | exact e2 | rfl), (by first | exact e3 | rfl), (by first | exact e4 | rfl), (by first | exact e5 | rfl), (by first | exact m0 | rfl), (by first | exact m1 | rfl), (by first | exact m2 | rfl), (by first | exact m3 | rfl), (by first | exact c1 | rfl), (by first | exact c7 | rfl), hT, hT', hR, hR', hP, hP', hB, hC, hD, hE0, hE1, hE2, hE3, hE4, hF, hG, hH⟩
            · rw [hL] at hL'; cases hL'
      · rcases m1_or c with rfl | ⟨i, hi, rfl⟩
        · refine br_t rfl (mm (fun L' round hL' k1 k2 => ?_) (fun hL' round => br_f (by decide) ⟨rfl, w, r, n, q, kd, se, gw, st, rk, re, rw, rg, pa, pb, t, (by first | exact e2 | rfl), (by first | exact e3 | rfl), (by first | exact e4 | rfl), (by first | exact e5 | rfl), (by first | exact m0 | rfl), (by first | exact m1 | rfl), (by first | exact m2 | rfl), (by first | exact m3 | rfl), (by first | exact c1 | rfl), (by first | exact c7 | rfl), hT, hT', hR, hR', hP, hP', hB, hC, hD, hE0, hE1, hE2, hE3, hE4, hF, hG, hH⟩))
          rw [hL] at hL'; cases hL'
        · have p0 : 0 ≤ nI i := nI_pos' hi
          refine br_f (nI_m1 hi) (br_t p0 (mm (fun L' round hL' k1 k2 => ?_) (fun hL' round => br_t p0 ⟨rfl, w, r, n, q, kd, se, gw, st, rk, re, rw, rg, pa, pb, t, (by first | exact e2 | rfl), (by first | exact e3 | rfl), (by first | exact e4 | rfl), (by first | exact e5 | rfl), (by first | exact m0 | rfl), (by first | exact m1 | rfl), (by first | exact m2 | rfl), (by first | exact m3 | rfl), (by first | exact c1 | rfl), (by first | exact c7 | rfl), hT, hT', hR, hR', hP, hP', hB, hC, hD, hE0, hE1, hE2, hE3, hE4, hF, hG, hH⟩)))
          rw [hL] at hL'; cases hL'
  · exact br_f c (ref_X r4 (br_f c (no_M r4 ⟨rfl, w, r, n, q, kd, se, gw, st, rk, re, rw, rg, pa, pb, t, (by first | exact e2 | rfl), (by first | exact e3 | rfl), (by first | exact e4 | rfl), (by first | exact e5 | rfl), (by first | exact m0 | rfl), (by first | exact m1 | rfl), (by first | exact m2 | rfl), (by first | exact m3 | rfl), (by first | exact c1 | rfl), (by first | exact c7 | rfl), hT, hT', hR, hR', hP, hP', RF_up hB r4, hC, hD, hE0, hE1, hE2, hE3, hE4, hF, hG, hH⟩)))
