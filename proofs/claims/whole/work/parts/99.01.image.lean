/-! the image: copies -/
theorem TG_cp {w r : Nat} {kd se gw st rk re rw : Nat → Nat} {k s g t a b c k' s' g' t' a' b' c' : Nat → Int32} (h : TG w r kd se gw st rk re rw k s g t a b c) (h1 : ∀ i, i < 6 → k' i = k i) (h2 : ∀ i, i < 6 → s' i = s i) (h3 : ∀ i, i < 6 → g' i = g i) (h4 : ∀ i, i < 6 → t' i = t i) (h5 : ∀ i, i < 6 → a' i = a i) (h6 : ∀ i, i < 6 → b' i = b i) (h7 : ∀ i, i < 6 → c' i = c i) : TG w r kd se gw st rk re rw k' s' g' t' a' b' c' := by
  obtain ⟨⟨p1, p2, p3⟩, ⟨p4, p5⟩, p6⟩ := h
  refine ⟨⟨p1, fun i hi => ?_, fun i hi => ?_⟩, ⟨p4, fun i hi => ?_⟩, fun i hi => ?_⟩
  · rw [h1 i (by omega)]; exact p2 i hi
  · rw [h2 i (by omega)]; exact p3 i hi
  · rw [h5 i (by omega), h6 i (by omega), h7 i (by omega)]; exact p5 i hi
  · rw [h3 i (by omega), h4 i (by omega)]; exact p6 i hi
theorem RW_cp {w n : Nat} {rg : Nat → Option Nat} {f f' : Nat → Int32} (h : RW w n 12 rg f) (h1 : ∀ i, i < 12 → f' i = f i) : RW w n 12 rg f' := by
  obtain ⟨p1, p2, p3⟩ := h
  exact ⟨p1, p2, fun i hi => by rw [h1 i (by omega)]; exact p3 i hi⟩
theorem PR_cp {w q : Nat} {pa pb : Nat → Nat} {f g f' g' : Nat → Int32} (h : PR w q pa pb f g) (h1 : ∀ i, i < 12 → f' i = f i) (h2 : ∀ i, i < 12 → g' i = g i) : PR w q pa pb f' g' := by
  obtain ⟨p1, p2, p3⟩ := h
  exact ⟨p1, fun i hi => by rw [h1 i (by omega), h2 i (by omega)]; exact p2 i hi, p3⟩
theorem cp6 {f g : Nat → Int32} : ∀ i, i < 6 → va_cpy f g (Int32.toNatClampNeg 0) (Int32.toNatClampNeg 0) (Int32.toNatClampNeg 6) i = f i := fun i hi => by
  rw [show Int32.toNatClampNeg 0 = 0 by decide, show Int32.toNatClampNeg 6 = 6 by decide, pk_cpy_in (by omega) (by omega), show 0 + (i - 0) = i by omega]
theorem cp12 {f g : Nat → Int32} : ∀ i, i < 12 → va_cpy f g (Int32.toNatClampNeg 0) (Int32.toNatClampNeg 0) (Int32.toNatClampNeg 12) i = f i := fun i hi => by
  rw [show Int32.toNatClampNeg 0 = 0 by decide, show Int32.toNatClampNeg 12 = 12 by decide, pk_cpy_in (by omega) (by omega), show 0 + (i - 0) = i by omega]
theorem mv1 {N p : Nat} {x : Int32} {T : Nat → Int32} {Φ : Int32 → Int32 → (Nat → Int32) → Prop} (hp : p < 90) (h : Φ x (nI (p + 1)) (upd T p x)) : wp_X12_move_ N x (nI p) 0 T Φ := by
  unfold wp_X12_move_
  rw [nI_1, nI_clamp (show p < 2 ^ 31 by omega)]
  exact br_t rfl ⟨in_nI hp (by omega), h⟩
theorem mv1B {N p : Nat} {x : Int32} {T : Nat → Int32} {Φ : Int32 → Int32 → (Nat → Int32) → Prop} (hp : p < 90) (h : Φ (T p) (nI (p + 1)) T) : wp_X12_move_ N x (nI p) 1 T Φ := by
  unfold wp_X12_move_
  rw [nI_1, nI_clamp (show p < 2 ^ 31 by omega)]
  exact br_f (by decide) ⟨in_nI hp (by omega), h⟩
theorem mvA {N n p : Nat} {T0 f : Nat → Int32} {Φ : Int32 → (Nat → Int32) → (Nat → Int32) → Prop} (hn : n ≤ 12) (hp : p + n ≤ 90) (hN : 100 < N) (hk : ∀ T, (∀ i, i < n → T (p + i) = f i) → (∀ j, j < p → T j = T0 j) → Φ (nI (p + n)) T f) : wp_X12_move N n (nI p) 0 T0 f Φ := by
  have L : ∀ (l i fuel : Nat) (T : Nat → Int32), i + l = n → l < fuel → (∀ j, j < i → T (p + j) = f j) → (∀ j, j < p → T j = T0 j) → lp_X12_move_2 N n 0 Φ fuel (nI i) (nI (p + i)) T f := by
    intro l
    induction l with
    | zero =>
      intro i fuel T hi hf h1 h2
      obtain ⟨z, rfl⟩ : ∃ z, fuel = z + 1 := ⟨fuel - 1, by omega⟩
      rw [lp_X12_move_2]
      obtain rfl : i = n := by omega
      exact br_t (nI_le (a := i) (b := i) (by omega) (by omega)) (hk T h1 h2)
    | succ l ih =>
      intro i fuel T hi hf h1 h2
      obtain ⟨z, rfl⟩ : ∃ z, fuel = z + 1 := ⟨fuel - 1, by omega⟩
      rw [lp_X12_move_2, nI_1 i, nI_1 (p + i), nI_clamp (show p + i < 2 ^ 31 by omega), nI_clamp (show i < 2 ^ 31 by omega)]
      refine br_f (nI_ge (a := i) (b := n) (by omega) (by omega)) (br_t rfl ⟨in_nI (by omega) (by omega), in_nI (by omega) (by omega), ?_⟩)
      refine ih (i + 1) z _ (by omega) (by omega) (fun j hj => ?_) (fun j hj => ?_)
      · by_cases e : j = i
        · subst e; exact pk_us
        · rw [pk_un (by omega)]; exact h1 j (by omega)
      · rw [pk_un (by omega)]; exact h2 j hj
  exact L n 0 N T0 (by omega) (by omega) (fun j hj => by omega) (fun j _ => rfl)
theorem mvB {N n p : Nat} {T f0 : Nat → Int32} {Φ : Int32 → (Nat → Int32) → (Nat → Int32) → Prop} (hn : n ≤ 12) (hp : p + n ≤ 90) (hN : 100 < N) (hk : ∀ f, (∀ i, i < n → f i = T (p + i)) → Φ (nI (p + n)) T f) : wp_X12_move N n (nI p) 1 T f0 Φ := by
  have L : ∀ (l i fuel : Nat) (f : Nat → Int32), i + l = n → l < fuel → (∀ j, j < i → f j = T (p + j)) → lp_X12_move_2 N n 1 Φ fuel (nI i) (nI (p + i)) T f := by
    intro l
    induction l with
    | zero =>
      intro i fuel f hi hf h1
      obtain ⟨z, rfl⟩ : ∃ z, fuel = z + 1 := ⟨fuel - 1, by omega⟩
      rw [lp_X12_move_2]
      obtain rfl : i = n := by omega
      exact br_t (nI_le (a := i) (b := i) (by omega) (by omega)) (hk f h1)
    | succ l ih =>
      intro i fuel f hi hf h1
      obtain ⟨z, rfl⟩ : ∃ z, fuel = z + 1 := ⟨fuel - 1, by omega⟩
      rw [lp_X12_move_2, nI_1 i, nI_1 (p + i), nI_clamp (show p + i < 2 ^ 31 by omega), nI_clamp (show i < 2 ^ 31 by omega)]
      refine br_f (nI_ge (a := i) (b := n) (by omega) (by omega)) (br_f (by decide) ⟨in_nI (by omega) (by omega), in_nI (by omega) (by omega), ?_⟩)
      refine ih (i + 1) z _ (by omega) (by omega) (fun j hj => ?_)
      by_cases e : j = i
      · subst e; exact pk_us
      · rw [pk_un (by omega)]; exact h1 j (by omega)
  exact L n 0 N f0 (by omega) (by omega) (fun j hj => by omega)
set_option maxHeartbeats 4000000 in
theorem op27 {N : Nat} (hN : 8000 < N) : zop27 N Inv := by
  intro vi fa wi ga hI
  obtain ⟨w, r, n, q, kd, se, gw, st, rk, re, rw, rg, pa, pb, t, e2, e3, e4, e5, m0, m1, m2, m3, c1, c7, hT, hT', hR, hR', hP, hP', hB, hC, hD, hE0, hE1, hE2, hE3, hE4, hF, hG, hH⟩ := hI
  have h1 : 100 < N := by omega
  unfold wp_X11_image wp_X9_copyFrom wp_X8_copyFrom wp_X4_copyFrom wp_X3_copyFrom wp_X12_image wp_X12_moveAll
  refine mv1 (p := 0) (by omega) (mv1 (p := 1) (by omega) (mv1 (p := 2) (by omega) (mv1 (p := 3) (by omega) ?_)))
  refine mvA (p := 4) (by omega) (by omega) h1 (fun T5 a5 b5 => mvA (p := 10) (by omega) (by omega) h1 (fun T6 a6 b6 => mvA (p := 16) (by omega) (by omega) h1 (fun T7 a7 b7 => mvA (p := 22) (by omega) (by omega) h1 (fun T8 a8 b8 => mvA (p := 28) (by omega) (by omega) h1 (fun T9 a9 b9 => mvA (p := 34) (by omega) (by omega) h1 (fun TA aA bA => mvA (p := 40) (by omega) (by omega) h1 (fun TB aB bB => mvA (p := 46) (by omega) (by omega) h1 (fun TC aC bC => mvA (p := 58) (by omega) (by omega) h1 (fun TD aD bD => mvA (p := 70) (by omega) (by omega) h1 (fun TE aE bE => ?_))))))))))
  have z : ∀ j, j < 4 → TE j = upd (upd (upd (upd (ga 11) 0 (wi 0)) 1 (wi 1)) 2 (wi 2)) 3 (wi 3) j := fun j hj => by
    rw [bE j (by omega), bD j (by omega), bC j (by omega), bB j (by omega), bA j (by omega), b9 j (by omega), b8 j (by omega), b7 j (by omega), b6 j (by omega), b5 j (by omega)]
  have g0 : TE 0 = nI w := by rw [z 0 (by omega), pk_un (by omega), pk_un (by omega), pk_un (by omega), pk_us]; exact m0
  have g1 : TE 1 = nI r := by rw [z 1 (by omega), pk_un (by omega), pk_un (by omega), pk_us]; exact m1
  have g2 : TE 2 = nI n := by rw [z 2 (by omega), pk_un (by omega), pk_us]; exact m2
  have g3 : TE 3 = nI q := by rw [z 3 (by omega), pk_us]; exact m3
  have k1 : TG w r kd se gw st rk re rw (fun i => TE (4 + i)) (fun i => TE (10 + i)) (fun i => TE (16 + i)) (fun i => TE (22 + i)) (fun i => TE (28 + i)) (fun i => TE (34 + i)) (fun i => TE (40 + i)) := TG_cp hT'
    (fun i hi => by show TE (4 + i) = _; rw [bE _ (by omega), bD _ (by omega), bC _ (by omega), bB _ (by omega), bA _ (by omega), b9 _ (by omega), b8 _ (by omega), b7 _ (by omega), b6 _ (by omega)]; exact a5 i hi)
    (fun i hi => by show TE (10 + i) = _; rw [bE _ (by omega), bD _ (by omega), bC _ (by omega), bB _ (by omega), bA _ (by omega), b9 _ (by omega), b8 _ (by omega), b7 _ (by omega)]; exact a6 i hi)
    (fun i hi => by show TE (16 + i) = _; rw [bE _ (by omega), bD _ (by omega), bC _ (by omega), bB _ (by omega), bA _ (by omega), b9 _ (by omega), b8 _ (by omega)]; exact a7 i hi)
    (fun i hi => by show TE (22 + i) = _; rw [bE _ (by omega), bD _ (by omega), bC _ (by omega), bB _ (by omega), bA _ (by omega), b9 _ (by omega)]; exact a8 i hi)
    (fun i hi => by show TE (28 + i) = _; rw [bE _ (by omega), bD _ (by omega), bC _ (by omega), bB _ (by omega), bA _ (by omega)]; exact a9 i hi)
    (fun i hi => by show TE (34 + i) = _; rw [bE _ (by omega), bD _ (by omega), bC _ (by omega), bB _ (by omega)]; exact aA i hi)
    (fun i hi => by show TE (40 + i) = _; rw [bE _ (by omega), bD _ (by omega), bC _ (by omega)]; exact aB i hi)
  have k2 : RW w n 12 rg (fun i => TE (46 + i)) := RW_cp hR' (fun i hi => by show TE (46 + i) = _; rw [bE _ (by omega), bD _ (by omega)]; exact aC i hi)
  have k3 : PR w q pa pb (fun i => TE (58 + i)) (fun i => TE (70 + i)) := PR_cp hP' (fun i hi => by show TE (58 + i) = _; rw [bE _ (by omega)]; exact aD i hi) (fun i hi => aE i hi)
  exact ⟨by rw [e2, m0], w, r, n, q, kd, se, gw, st, rk, re, rw, rg, pa, pb, t, (by first | exact e2 | rfl), (by first | exact e3 | rfl), (by first | exact e4 | rfl), (by first | exact e5 | rfl), (by first | exact m0 | rfl), (by first | exact m1 | rfl), (by first | exact m2 | rfl), (by first | exact m3 | rfl), (by first | exact c1 | rfl), (by first | exact c7 | rfl), hT, hT', hR, hR', hP, hP', hB, hC, Or.inr ⟨rfl, rfl, w, r, n, q, kd, se, gw, st, rk, re, rw, rg, pa, pb, e2, e3, e4, e5, g0, g1, g2, g3, TG_cp hT cp6 cp6 cp6 cp6 cp6 cp6 cp6, k1, RW_cp hR cp12, k2, PR_cp hP cp12 cp12, k3⟩, hE0, hE1, hE2, hE3, hE4, hF, hG, hH⟩
set_option maxHeartbeats 4000000 in
theorem op28 {N : Nat} (hN : 8000 < N) : zop28 N Inv := by
  intro vi fa wi ga hI
  obtain ⟨w, r, n, q, kd, se, gw, st, rk, re, rw, rg, pa, pb, t, e2, e3, e4, e5, m0, m1, m2, m3, c1, c7, hT, hT', hR, hR', hP, hP', hB, hC, hD, hE0, hE1, hE2, hE3, hE4, hF, hG, hH⟩ := hI
  have h1 : 100 < N := by omega
  rcases id hD with ⟨y1, y2⟩ | ⟨y1, y2, w', r', n', q', kd', se', gw', st', rk', re', rw', rg', pa', pb', x1, x2, x3, x4, x5, x6, x7, x8, t1, t2, r1', r2', p1, p2⟩
  · exact br_t y1 (ref_X r3 (br_t y2 (no_M r3 ⟨rfl, w, r, n, q, kd, se, gw, st, rk, re, rw, rg, pa, pb, t, (by first | exact e2 | rfl), (by first | exact e3 | rfl), (by first | exact e4 | rfl), (by first | exact e5 | rfl), (by first | exact m0 | rfl), (by first | exact m1 | rfl), (by first | exact m2 | rfl), (by first | exact m3 | rfl), (by first | exact c1 | rfl), (by first | exact c7 | rfl), hT, hT', hR, hR', hP, hP', RF_up hB r3, hC, hD, hE0, hE1, hE2, hE3, hE4, hF, hG, hH⟩)))
  · refine br_f (by rw [y1]; decide) ?_
    unfold wp_X9_copyFrom wp_X8_copyFrom wp_X4_copyFrom wp_X3_copyFrom wp_X11_forgetTongue
    refine br_f (by rw [y2]; decide) ?_
    unfold wp_X12_moveAll
    refine mv1B (p := 0) (by omega) (mv1B (p := 1) (by omega) (mv1B (p := 2) (by omega) (mv1B (p := 3) (by omega) ?_)))
    refine mvB (p := 4) (by omega) (by omega) h1 (fun f5 a5 => mvB (p := 10) (by omega) (by omega) h1 (fun f6 a6 => mvB (p := 16) (by omega) (by omega) h1 (fun f7 a7 => mvB (p := 22) (by omega) (by omega) h1 (fun f8 a8 => mvB (p := 28) (by omega) (by omega) h1 (fun f9 a9 => mvB (p := 34) (by omega) (by omega) h1 (fun fA aA => mvB (p := 40) (by omega) (by omega) h1 (fun fB aB => mvB (p := 46) (by omega) (by omega) h1 (fun fC aC => mvB (p := 58) (by omega) (by omega) h1 (fun fD aD => mvB (p := 70) (by omega) (by omega) h1 (fun fE aE => ?_))))))))))
    exact ⟨by rw [x1, x5], w', r', n', q', kd', se', gw', st', rk', re', rw', rg', pa', pb', t, x1, x2, x3, x4, x5, x6, x7, x8, (by first | exact c1 | rfl), (by first | exact c7 | rfl), TG_cp t1 cp6 cp6 cp6 cp6 cp6 cp6 cp6, TG_cp t2 a5 a6 a7 a8 a9 aA aB, RW_cp r1' cp12, RW_cp r2' aC, PR_cp p1 cp12 cp12, PR_cp p2 aD aE, hB, hC, hD, ⟨hE0.1, Or.inl rfl⟩, ⟨hE1.1, Or.inl rfl⟩, ⟨hE2.1, Or.inl rfl⟩, ⟨hE3.1, Or.inl rfl⟩, ⟨hE4.1, Or.inl rfl⟩, Or.inl rfl, Or.inl rfl, hH⟩
