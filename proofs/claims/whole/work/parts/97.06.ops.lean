/-! what a survey says of all rings -/
theorem seen_le {w n j m i i' : Nat} (h : Seen w n j m i) (hi : i' ≤ i) : Seen w n j m i' := by
  obtain ⟨a, b | b⟩ := h
  · exact ⟨a, Or.inl ⟨b.1, by omega⟩⟩
  · exact ⟨a, Or.inr ⟨b.1, by omega⟩⟩
theorem seen_lt {w n j m i : Nat} (hj : j ≤ w ^ n) (h : Seen w n j m i) : i < w ^ m ∧ 0 < m ∧ 0 < w := by
  obtain ⟨a, b⟩ := h
  have hi : i < w ^ m := by
    rcases b with b | b
    · exact b.2
    · obtain ⟨rfl, b⟩ := b; omega
  refine ⟨hi, by omega, ?_⟩
  rcases Nat.eq_zero_or_pos w with e | e
  · subst e; rw [Nat.zero_pow (by omega)] at hi; omega
  · exact e
theorem all_of_good {kd se : Nat → Nat} {w by_ n j s : Nat} (hj : j ≤ w ^ n) (hs : s ≠ 16) (h : ∀ m i, m ≤ 5 → Seen w n j m i → good kd se w by_ m i = true → ringM kd se w by_ m i ≠ s) : ∀ m i, m ≤ 5 → Seen w n j m i → ringM kd se w by_ m i ≠ s := by
  intro m i hm hS e
  obtain ⟨hi, hm0, hw0⟩ := seen_lt hj hS
  obtain ⟨i', h1, h2, h3, -⟩ := good_rot hw0 hm0 hi e hs
  exact h m i' hm (seen_le hS h1) h2 h3
theorem seen6 {w m i : Nat} (h : Seen w 6 0 m i) : m ≤ 5 ∧ 1 ≤ m ∧ i < w ^ m := by
  obtain ⟨a, b | b⟩ := h
  · exact ⟨by omega, a, b.2⟩
  · omega
theorem least_eq {N w k s : Nat} {kd se : Nat → Nat} {kinds sets F0 fewest firsts counts without : Nat → Int32} {said : Int32} {Φ : Int32 → (Nat → Int32) → Prop} (hN : 8000 < N) (hK : KS w kd se kinds sets) (hk : k ≤ 4) (hs : s < 16) (hS : SV kd se w k 6 0 said fewest firsts counts without)
    (h0 : fewest s = 0 → ∀ F, Φ (-9) F) (h1 : ∀ m F, 1 ≤ m → m ≤ 5 → fewest s = nI m → (∀ i, i < m → firsts (s * 5 + i) = F i) → Φ (nI m) F) : wp_X12_least N (nI s) (nI k) (nI w) kinds sets F0 Φ := by
  rcases hS.2.2.2 s hs with ⟨f0, f1⟩ | ⟨m, i, g0, g1, g2, g3, g4, g5, g6⟩
  · have hall := all_of_good (Nat.zero_le _) (by omega) f1
    refine least_M hN hK hk hs (fun _ F => h0 f0 F) (fun n i F hn hn5 hi e _ _ => ?_)
    exact absurd e (hall n i hn5 ⟨hn, Or.inl ⟨by omega, hi⟩⟩)
  · obtain ⟨hm5, hm1, hi⟩ := seen6 g1
    have hall := all_of_good (Nat.le_of_lt hi) (show s ≠ 16 by omega) g6
    refine least_M hN hK hk hs (fun hno F => absurd g3 (hno m i g1)) (fun n' i' F hn hn5 hi' e hb hR => ?_)
    obtain ⟨rfl, rfl⟩ := first_one (P := fun a b => ringM kd se w k a b = s) hn hm1 hi' hi e g3 hb (fun m' i' hs' => by
      refine hall m' i' ?_ hs'
      obtain ⟨a, b | b⟩ := hs' <;> omega)
    exact h1 _ F hn hn5 g4 (fun j hj => by rw [g5 j hj, hR j hj])
theorem m1_or {x : Int32} (h : -1 ≤ x) : x = -1 ∨ ∃ j, j < 2 ^ 31 ∧ x = nI j := by
  by_cases c : x < 0
  · left
    have h1 := Int32.le_iff_toInt_le.mp h
    have h2 := Int32.lt_iff_toInt_lt.mp c
    have c0 : (0 : Int32).toInt = 0 := by decide
    have c1 : (-1 : Int32).toInt = -1 := by decide
    exact Int32.toInt_inj.mp (by omega)
  · obtain ⟨j, hj, e⟩ := nI_of c
    exact Or.inr ⟨j, hj, e⟩
theorem m9_le {j : Nat} (hj : j < 2 ^ 31) : (-9 : Int32) ≤ nI j := by
  refine Int32.le_iff_toInt_le.mpr ?_
  rw [nI_toInt hj]
  have c1 : (-9 : Int32).toInt = -9 := by decide
  omega
set_option maxHeartbeats 4000000 in
theorem short_k {N w k : Nat} {kd se : Nat → Nat} {kinds sets kinds' sets' few fst cnt wo row F G tr : Nat → Int32} {x1 x3 vk kn sd : Int32} (hN : 8000 < N) (hK : KS w kd se kinds sets) (hK' : KS w kd se kinds' sets') (hk : k ≤ 4) (hE : SK w kd se k vk kn sd few fst cnt wo) (hB : RF F G) {Ψ : Int32 → Int32 → Int32 → Int32 → (Nat → Int32) → (Nat → Int32) → (Nat → Int32) → (Nat → Int32) → (Nat → Int32) → (Nat → Int32) → (Nat → Int32) → (Nat → Int32) → Prop}
    (hΨ : ∀ r kn sd few fst cnt wo row F G tr, SK w kd se k vk kn sd few fst cnt wo → RF F G → Ψ r r kn sd few fst cnt wo row F G tr) :
    wp_X11_shortest N x1 (nI k) x3 (nI w) kinds sets vk kn sd few fst cnt wo row F (fun r o0 o1 o2 o3 o4 o5 o6 o7 => wp_X12_shortest N x1 (nI k) x3 (nI w) G kinds' sets' tr (fun r' p0 p1 => Ψ r r' o0 o1 o2 o3 o4 o5 o6 o7 p0 p1)) := by
  rcases out x1 (n := 16) (by omega) with (h | h) | ⟨s, hs, rfl⟩
  · exact br_t h (ref_X r1 (br_t h (no_M r1 (hΨ _ _ _ _ _ _ _ _ _ _ _ hE (RF_up hB r1)))))
  · have h0 : ¬ x1 < 0 := nlt (ge_of (b := 0) h (by omega) (by omega))
    exact br_f h0 (br_f (nlt h) (ref_X r1 (br_f h0 (br_f (nbig (b := 15) h (by omega) (by omega)) (no_M r1 (hΨ _ _ _ _ _ _ _ _ _ _ _ hE (RF_up hB r1)))))))
  · have h0 : ¬ nI s < 0 := nI_pos (by omega)
    have h15 : nI s ≤ 15 := nI_le (b := 15) (by omega) (by omega)
    refine br_f h0 (br_t (nI_lt (b := 16) hs (by omega)) (ir_some (by omega) (br_f (by decide) ?_)))
    by_cases c : -1 ≤ x3
    · obtain ⟨rfl, hE2⟩ := id hE
      refine br_t c ⟨in_nI (by omega) (by omega), look_X hN hK hk hE2 (fun said few' fst' cnt' wo' row' hS => ⟨in_nI hs (by omega), ?_⟩)⟩
      have cs : (nI s).toNatClampNeg = s := nI_clamp (by omega)
      have hE' : SK w kd se k (nI k) 1 said few' fst' cnt' wo' := ⟨rfl, Or.inr ⟨rfl, hS⟩⟩
      have go : ∀ {Φ : Int32 → (Nat → Int32) → (Nat → Int32) → Prop}, (few' s = 0 → ∀ o, ((0 ≤ x3 → ((-9 : Int32) ≤ x3 → Φ (-9) G o) ∧ (¬ (-9 : Int32) ≤ x3 → vp_in x3 6 ∧ Φ (o (Int32.toNatClampNeg x3)) G o)) ∧ (¬ 0 ≤ x3 → Φ (-9) G o))) → (∀ m o, 1 ≤ m → m ≤ 5 → few' s = nI m → (∀ i, i < m → fst' (s * 5 + i) = o i) → ((0 ≤ x3 → (nI m ≤ x3 → Φ (-9) G o) ∧ (¬ nI m ≤ x3 → vp_in x3 6 ∧ Φ (o (Int32.toNatClampNeg x3)) G o)) ∧ (¬ 0 ≤ x3 → Φ (nI m) G o))) → wp_X12_shortest N (nI s) (nI k) x3 (nI w) G kinds' sets' tr Φ := fun a b => br_f h0 (br_t h15 (nk_some (by omega) (br_t rfl (br_t c (least_eq hN hK' hk hs hS a b)))))
      have hcase : few' s = 0 ∨ ∃ m, 1 ≤ m ∧ m ≤ 5 ∧ few' s = nI m := by
        rcases hS.2.2.2 s hs with ⟨f0, f1⟩ | ⟨m, i, g0, g1, g2, g3, g4, g5, g6⟩
        · exact Or.inl f0
        · exact Or.inr ⟨m, g1.1, g0, g4⟩
      rw [cs]
      rcases m1_or c with rfl | ⟨i, hi, rfl⟩
      · refine br_t rfl (br_c (fun z => ?_) (fun z => ?_))
        · exact go (fun _ o => br_f (by decide) (hΨ _ _ _ _ _ _ _ _ _ _ _ hE' hB)) (fun m o m1 m5 e _ => by
            rw [z] at e; exact absurd e.symm (nI_ne0 (by omega) (by omega)))
        · refine go (fun e => absurd e z) (fun m o m1 m5 e _ => br_f (by decide) ?_)
          rw [e]
          exact hΨ _ _ _ _ _ _ _ _ _ _ _ hE' hB
      · have p0 : 0 ≤ nI i := nI_pos' hi
        refine br_f (nI_m1 hi) ?_
        rcases hcase with e | ⟨m, m1, m5, e⟩
        · rw [e]
          exact br_t p0 (go (fun _ o => br_t p0 (br_t (m9_le hi) (hΨ _ _ _ _ _ _ _ _ _ _ _ hE' hB))) (fun m o m1 m5 e' _ => by
            rw [e] at e'; exact absurd e'.symm (nI_ne0 (by omega) (by omega))))
        · rw [e]
          refine br_c (fun d => ?_) (fun d => ?_)
          · refine go (fun e0 => ?_) (fun m' o m1' m5' e' _ => ?_)
            · rw [e] at e0; exact absurd e0 (nI_ne0 (by omega) (by omega))
            · obtain rfl : m = m' := (nI_eq (by omega) (by omega)).mp (e.symm.trans e')
              exact br_t p0 (br_t d (hΨ _ _ _ _ _ _ _ _ _ _ _ hE' hB))
          · have him : i < m := by
              rcases Nat.lt_or_ge i m with y | y
              · exact y
              · exact absurd (nI_le y hi) d
            have e5 : nI s * 5 + nI i = nI (s * 5 + i) := by
              rw [show nI s * 5 = nI (s * 5) from pk_mul s 5, nI_add]
            rw [e5, nI_clamp (show s * 5 + i < 2 ^ 31 by omega)]
            refine ⟨in_nI (by omega) (by omega), go (fun e0 => ?_) (fun m' o m1' m5' e' ho => ?_)⟩
            · rw [e] at e0; exact absurd e0 (nI_ne0 (by omega) (by omega))
            · obtain rfl : m = m' := (nI_eq (by omega) (by omega)).mp (e.symm.trans e')
              refine br_t p0 (br_f d ⟨in_nI (by omega) (by omega), ?_⟩)
              rw [nI_clamp hi, ho i him]
              exact hΨ _ _ _ _ _ _ _ _ _ _ _ hE' hB
    · exact br_f c (ref_X r4 (br_f h0 (br_t h15 (nk_some (by omega) (br_t rfl (br_f c (no_M r4 (hΨ _ _ _ _ _ _ _ _ _ _ _ hE (RF_up hB r4)))))))))
theorem short_bad {N w : Nat} {kinds sets kinds' sets' few fst cnt wo row F G tr : Nat → Int32} {x1 x2 x3 vk kn sd : Int32} (hx : x2 < 0 ∨ nI 5 ≤ x2) (hB : RF F G) {Ψ : Int32 → Int32 → Int32 → Int32 → (Nat → Int32) → (Nat → Int32) → (Nat → Int32) → (Nat → Int32) → (Nat → Int32) → (Nat → Int32) → (Nat → Int32) → (Nat → Int32) → Prop}
    (hΨ : ∀ r F G, RF F G → Ψ r r kn sd few fst cnt wo row F G tr) :
    wp_X11_shortest N x1 x2 x3 (nI w) kinds sets vk kn sd few fst cnt wo row F (fun r o0 o1 o2 o3 o4 o5 o6 o7 => wp_X12_shortest N x1 x2 x3 (nI w) G kinds' sets' tr (fun r' p0 p1 => Ψ r r' o0 o1 o2 o3 o4 o5 o6 o7 p0 p1)) := by
  rcases out x1 (n := 16) (by omega) with (h | h) | ⟨s, hs, rfl⟩
  · exact br_t h (ref_X r1 (br_t h (no_M r1 (hΨ _ _ _ (RF_up hB r1)))))
  · have h0 : ¬ x1 < 0 := nlt (ge_of (b := 0) h (by omega) (by omega))
    exact br_f h0 (br_f (nlt h) (ref_X r1 (br_f h0 (br_f (nbig (b := 15) h (by omega) (by omega)) (no_M r1 (hΨ _ _ _ (RF_up hB r1)))))))
  · have h0 : ¬ nI s < 0 := nI_pos (by omega)
    have h15 : nI s ≤ 15 := nI_le (b := 15) (by omega) (by omega)
    exact br_f h0 (br_t (nI_lt (b := 16) hs (by omega)) (ir_out hx (br_t rfl (ref_X r2 (br_f h0 (br_t h15 (nk_out hx (br_f (by decide) (no_M r2 (hΨ _ _ _ (RF_up hB r2)))))))))))
theorem bad5 {x : Int32} (h : ¬ vp_in x 5) : x < 0 ∨ nI 5 ≤ x := by
  rcases out x (n := 5) (by omega) with h1 | ⟨j, hj, rfl⟩
  · exact h1
  · exact absurd (in_nI hj (by omega)) h
theorem op13 {N : Nat} (hN : 8000 < N) : zop13 N Inv := by
  intro vi fa wi ga x1 x2 x3 hI
  obtain ⟨w, r, n, q, kd, se, gw, st, rk, re, rw, rg, pa, pb, t, e2, e3, e4, e5, m0, m1, m2, m3, c1, c7, hT, hT', hR, hR', hP, hP', hB, hC, hD, hE0, hE1, hE2, hE3, hE4, hF, hG, hH⟩ := hI
  obtain ⟨hK, -, -⟩ := id hT
  obtain ⟨hK', -, -⟩ := id hT'
  rw [e2, m0]
  refine ⟨?_, ?_, ?_, ?_, ?_, ?_⟩
  · rintro rfl
    exact short_k (k := 0) hN hK hK' (by omega) hE0 hB (fun ra kn sd few fst cnt wo row F G tr a b => ⟨rfl, w, r, n, q, kd, se, gw, st, rk, re, rw, rg, pa, pb, t, (by first | exact e2 | rfl), (by first | exact e3 | rfl), (by first | exact e4 | rfl), (by first | exact e5 | rfl), (by first | exact m0 | rfl), (by first | exact m1 | rfl), (by first | exact m2 | rfl), (by first | exact m3 | rfl), (by first | exact c1 | rfl), (by first | exact c7 | rfl), hT, hT', hR, hR', hP, hP', b, hC, hD, a, hE1, hE2, hE3, hE4, hF, hG, hH⟩)
  · rintro rfl
    exact short_k (k := 1) hN hK hK' (by omega) hE1 hB (fun ra kn sd few fst cnt wo row F G tr a b => ⟨rfl, w, r, n, q, kd, se, gw, st, rk, re, rw, rg, pa, pb, t, (by first | exact e2 | rfl), (by first | exact e3 | rfl), (by first | exact e4 | rfl), (by first | exact e5 | rfl), (by first | exact m0 | rfl), (by first | exact m1 | rfl), (by first | exact m2 | rfl), (by first | exact m3 | rfl), (by first | exact c1 | rfl), (by first | exact c7 | rfl), hT, hT', hR, hR', hP, hP', b, hC, hD, hE0, a, hE2, hE3, hE4, hF, hG, hH⟩)
  · rintro rfl
    exact short_k (k := 2) hN hK hK' (by omega) hE2 hB (fun ra kn sd few fst cnt wo row F G tr a b => ⟨rfl, w, r, n, q, kd, se, gw, st, rk, re, rw, rg, pa, pb, t, (by first | exact e2 | rfl), (by first | exact e3 | rfl), (by first | exact e4 | rfl), (by first | exact e5 | rfl), (by first | exact m0 | rfl), (by first | exact m1 | rfl), (by first | exact m2 | rfl), (by first | exact m3 | rfl), (by first | exact c1 | rfl), (by first | exact c7 | rfl), hT, hT', hR, hR', hP, hP', b, hC, hD, hE0, hE1, a, hE3, hE4, hF, hG, hH⟩)
  · rintro rfl
    exact short_k (k := 3) hN hK hK' (by omega) hE3 hB (fun ra kn sd few fst cnt wo row F G tr a b => ⟨rfl, w, r, n, q, kd, se, gw, st, rk, re, rw, rg, pa, pb, t, (by first | exact e2 | rfl), (by first | exact e3 | rfl), (by first | exact e4 | rfl), (by first | exact e5 | rfl), (by first | exact m0 | rfl), (by first | exact m1 | rfl), (by first | exact m2 | rfl), (by first | exact m3 | rfl), (by first | exact c1 | rfl), (by first | exact c7 | rfl), hT, hT', hR, hR', hP, hP', b, hC, hD, hE0, hE1, hE2, a, hE4, hF, hG, hH⟩)
  · rintro rfl
    exact short_k (k := 4) hN hK hK' (by omega) hE4 hB (fun ra kn sd few fst cnt wo row F G tr a b => ⟨rfl, w, r, n, q, kd, se, gw, st, rk, re, rw, rg, pa, pb, t, (by first | exact e2 | rfl), (by first | exact e3 | rfl), (by first | exact e4 | rfl), (by first | exact e5 | rfl), (by first | exact m0 | rfl), (by first | exact m1 | rfl), (by first | exact m2 | rfl), (by first | exact m3 | rfl), (by first | exact c1 | rfl), (by first | exact c7 | rfl), hT, hT', hR, hR', hP, hP', b, hC, hD, hE0, hE1, hE2, hE3, a, hF, hG, hH⟩)
  · intro hx
    exact short_bad (bad5 hx) hB (fun ra F G b => ⟨rfl, w, r, n, q, kd, se, gw, st, rk, re, rw, rg, pa, pb, t, (by first | exact e2 | rfl), (by first | exact e3 | rfl), (by first | exact e4 | rfl), (by first | exact e5 | rfl), (by first | exact m0 | rfl), (by first | exact m1 | rfl), (by first | exact m2 | rfl), (by first | exact m3 | rfl), (by first | exact c1 | rfl), (by first | exact c7 | rfl), hT, hT', hR, hR', hP, hP', b, hC, hD, hE0, hE1, hE2, hE3, hE4, hF, hG, hH⟩)
/-! rings -/
set_option maxHeartbeats 4000000 in
theorem rings_k {N w k : Nat} {kd se : Nat → Nat} {kinds sets kinds' sets' few fst cnt wo row F G tr : Nat → Int32} {x1 vk kn sd : Int32} (hN : 8000 < N) (hK : KS w kd se kinds sets) (hK' : KS w kd se kinds' sets') (hk : k ≤ 4) (hE : SK w kd se k vk kn sd few fst cnt wo) (hB : RF F G) {Ψ : Int32 → Int32 → Int32 → Int32 → (Nat → Int32) → (Nat → Int32) → (Nat → Int32) → (Nat → Int32) → (Nat → Int32) → (Nat → Int32) → (Nat → Int32) → (Nat → Int32) → Prop}
    (hΨ : ∀ r kn sd few fst cnt wo row F G tr, SK w kd se k vk kn sd few fst cnt wo → RF F G → Ψ r r kn sd few fst cnt wo row F G tr) :
    wp_X11_rings N x1 (nI k) (nI w) kinds sets vk kn sd few fst cnt wo row F (fun r o0 o1 o2 o3 o4 o5 o6 o7 => wp_X12_rings N x1 (nI k) (nI w) G kinds' sets' tr (fun r' p0 p1 => Ψ r r' o0 o1 o2 o3 o4 o5 o6 o7 p0 p1)) := by
  have hw6 := hK.1
  rcases oneTo x1 (m := 5) (by omega) with h1 | ⟨h1, h2⟩ | ⟨n, g1, g2, rfl, h1, h2⟩
  · exact br_f h1 (ref_X r4 (br_f h1 (no_M r4 (hΨ _ _ _ _ _ _ _ _ _ _ _ hE (RF_up hB r4)))))
  · exact br_t h1 (br_f h2 (ref_X r6 (br_t h1 (br_f h2 (no_M r6 (hΨ _ _ _ _ _ _ _ _ _ _ _ hE (RF_up hB r6)))))))
  · obtain ⟨rfl, hE2⟩ := id hE
    have v5 : vp_in (nI k) 5 := in_nI (by omega) (by omega)
    refine br_t h1 (br_t h2 (ir_some (by omega) (br_f (by decide) ⟨v5, look_X hN hK hk hE2 (fun said few' fst' cnt' wo' row' hS => ⟨v5, in_nI (by omega) (by omega), ?_⟩)⟩)))
    have hE' : SK w kd se k (nI k) 1 said few' fst' cnt' wo' := ⟨rfl, Or.inr ⟨rfl, hS⟩⟩
    have hc := hS.1 n g1 g2
    rw [if_pos (show n < 6 by omega)] at hc
    rw [nI_clamp (show n < 2 ^ 31 by omega), hc]
    refine br_t h1 (br_t h2 (nk_some (by omega) (br_t rfl ?_)))
    have hp6 := pow6 hw6 g2
    rcases Nat.eq_zero_or_pos w with e | hw0
    · subst e
      rw [Nat.zero_pow (by omega)]
      exact br_t (by decide) (hΨ _ _ _ _ _ _ _ _ _ _ _ hE' hB)
    · refine br_f (nI_nle hw0 (by omega)) (begin_M (by omega) (by omega) (fun F' hF' => ?_))
      have hp0 := pow_pos' (n := n) hw0
      exact rings_M_loop hN hK' hw0 hk g1 g2 (fun tr => hΨ _ _ _ _ _ _ _ _ _ _ _ hE' hB) (w ^ n - 1) 0 N F' (by omega) (by omega) hF'
theorem rings_bad {N w : Nat} {kinds sets kinds' sets' few fst cnt wo row F G tr : Nat → Int32} {x1 x2 vk kn sd : Int32} (hx : x2 < 0 ∨ nI 5 ≤ x2) (hB : RF F G) {Ψ : Int32 → Int32 → Int32 → Int32 → (Nat → Int32) → (Nat → Int32) → (Nat → Int32) → (Nat → Int32) → (Nat → Int32) → (Nat → Int32) → (Nat → Int32) → (Nat → Int32) → Prop}
    (hΨ : ∀ r F G, RF F G → Ψ r r kn sd few fst cnt wo row F G tr) :
    wp_X11_rings N x1 x2 (nI w) kinds sets vk kn sd few fst cnt wo row F (fun r o0 o1 o2 o3 o4 o5 o6 o7 => wp_X12_rings N x1 x2 (nI w) G kinds' sets' tr (fun r' p0 p1 => Ψ r r' o0 o1 o2 o3 o4 o5 o6 o7 p0 p1)) := by
  rcases oneTo x1 (m := 5) (by omega) with h1 | ⟨h1, h2⟩ | ⟨n, g1, g2, rfl, h1, h2⟩
  · exact br_f h1 (ref_X r4 (br_f h1 (no_M r4 (hΨ _ _ _ (RF_up hB r4)))))
  · exact br_t h1 (br_f h2 (ref_X r6 (br_t h1 (br_f h2 (no_M r6 (hΨ _ _ _ (RF_up hB r6)))))))
  · exact br_t h1 (br_t h2 (ir_out hx (br_t rfl (ref_X r2 (br_t h1 (br_t h2 (nk_out hx (br_f (by decide) (no_M r2 (hΨ _ _ _ (RF_up hB r2)))))))))))
theorem op15 {N : Nat} (hN : 8000 < N) : zop15 N Inv := by
  intro vi fa wi ga x1 x2 hI
  obtain ⟨w, r, n, q, kd, se, gw, st, rk, re, rw, rg, pa, pb, t, e2, e3, e4, e5, m0, m1, m2, m3, c1, c7, hT, hT', hR, hR', hP, hP', hB, hC, hD, hE0, hE1, hE2, hE3, hE4, hF, hG, hH⟩ := hI
  obtain ⟨hK, -, -⟩ := id hT
  obtain ⟨hK', -, -⟩ := id hT'
  rw [e2, m0]
  refine ⟨?_, ?_, ?_, ?_, ?_, ?_⟩
  · rintro rfl
    exact rings_k (k := 0) hN hK hK' (by omega) hE0 hB (fun ra kn sd few fst cnt wo row F G tr a b => ⟨rfl, w, r, n, q, kd, se, gw, st, rk, re, rw, rg, pa, pb, t, (by first | exact e2 | rfl), (by first | exact e3 | rfl), (by first | exact e4 | rfl), (by first | exact e5 | rfl), (by first | exact m0 | rfl), (by first | exact m1 | rfl), (by first | exact m2 | rfl), (by first | exact m3 | rfl), (by first | exact c1 | rfl), (by first | exact c7 | rfl), hT, hT', hR, hR', hP, hP', b, hC, hD, a, hE1, hE2, hE3, hE4, hF, hG, hH⟩)
  · rintro rfl
    exact rings_k (k := 1) hN hK hK' (by omega) hE1 hB (fun ra kn sd few fst cnt wo row F G tr a b => ⟨rfl, w, r, n, q, kd, se, gw, st, rk, re, rw, rg, pa, pb, t, (by first | exact e2 | rfl), (by first | exact e3 | rfl), (by first | exact e4 | rfl), (by first | exact e5 | rfl), (by first | exact m0 | rfl), (by first | exact m1 | rfl), (by first | exact m2 | rfl), (by first | exact m3 | rfl), (by first | exact c1 | rfl), (by first | exact c7 | rfl), hT, hT', hR, hR', hP, hP', b, hC, hD, hE0, a, hE2, hE3, hE4, hF, hG, hH⟩)
  · rintro rfl
    exact rings_k (k := 2) hN hK hK' (by omega) hE2 hB (fun ra kn sd few fst cnt wo row F G tr a b => ⟨rfl, w, r, n, q, kd, se, gw, st, rk, re, rw, rg, pa, pb, t, (by first | exact e2 | rfl), (by first | exact e3 | rfl), (by first | exact e4 | rfl), (by first | exact e5 | rfl), (by first | exact m0 | rfl), (by first | exact m1 | rfl), (by first | exact m2 | rfl), (by first | exact m3 | rfl), (by first | exact c1 | rfl), (by first | exact c7 | rfl), hT, hT', hR, hR', hP, hP', b, hC, hD, hE0, hE1, a, hE3, hE4, hF, hG, hH⟩)
  · rintro rfl
    exact rings_k (k := 3) hN hK hK' (by omega) hE3 hB (fun ra kn sd few fst cnt wo row F G tr a b => ⟨rfl, w, r, n, q, kd, se, gw, st, rk, re, rw, rg, pa, pb, t, (by first | exact e2 | rfl), (by first | exact e3 | rfl), (by first | exact e4 | rfl), (by first | exact e5 | rfl), (by first | exact m0 | rfl), (by first | exact m1 | rfl), (by first | exact m2 | rfl), (by first | exact m3 | rfl), (by first | exact c1 | rfl), (by first | exact c7 | rfl), hT, hT', hR, hR', hP, hP', b, hC, hD, hE0, hE1, hE2, a, hE4, hF, hG, hH⟩)
  · rintro rfl
    exact rings_k (k := 4) hN hK hK' (by omega) hE4 hB (fun ra kn sd few fst cnt wo row F G tr a b => ⟨rfl, w, r, n, q, kd, se, gw, st, rk, re, rw, rg, pa, pb, t, (by first | exact e2 | rfl), (by first | exact e3 | rfl), (by first | exact e4 | rfl), (by first | exact e5 | rfl), (by first | exact m0 | rfl), (by first | exact m1 | rfl), (by first | exact m2 | rfl), (by first | exact m3 | rfl), (by first | exact c1 | rfl), (by first | exact c7 | rfl), hT, hT', hR, hR', hP, hP', b, hC, hD, hE0, hE1, hE2, hE3, a, hF, hG, hH⟩)
  · intro hx
    exact rings_bad (bad5 hx) hB (fun ra F G b => ⟨rfl, w, r, n, q, kd, se, gw, st, rk, re, rw, rg, pa, pb, t, (by first | exact e2 | rfl), (by first | exact e3 | rfl), (by first | exact e4 | rfl), (by first | exact e5 | rfl), (by first | exact m0 | rfl), (by first | exact m1 | rfl), (by first | exact m2 | rfl), (by first | exact m3 | rfl), (by first | exact c1 | rfl), (by first | exact c7 | rfl), hT, hT', hR, hR', hP, hP', b, hC, hD, hE0, hE1, hE2, hE3, hE4, hF, hG, hH⟩)
/-! sayable and needed -/
theorem good_16 {kd se : Nat → Nat} {w by_ m i : Nat} (h : good kd se w by_ m i = true) : ringM kd se w by_ m i ≠ 16 := by
  unfold good at h
  simp at h
  exact h.2
theorem said_eq {kd se : Nat → Nat} {w k sd sd' : Nat} (h : ∀ b, sd.testBit b = true ↔ ∃ m i, m ≤ 4 ∧ Seen w 6 0 m i ∧ good kd se w k m i = true ∧ ringM kd se w k m i = b) (h' : Bits kd se w k 5 0 none sd') : sd = sd' := by
  refine bit_eq (fun b => ?_)
  rw [h, h'.2]
  constructor
  · rintro ⟨m, i, a1, a2, a3, a4⟩
    obtain ⟨b1, b2, b3⟩ := seen6 a2
    refine ⟨m, i, ⟨b2, Or.inl ⟨by omega, b3⟩⟩, a4, by rw [← a4]; exact good_16 a3, fun k _ => by simp⟩
  · rintro ⟨m, i, a1, a2, a3, a4⟩
    obtain ⟨b1, b2, b3⟩ := seen_lt (Nat.zero_le _) a1
    have hm : m ≤ 4 := by obtain ⟨c, d | d⟩ := a1 <;> omega
    obtain ⟨i', c1, c2, c3, -⟩ := good_rot b3 b2 b1 a2 a3
    exact ⟨m, i', hm, ⟨b2, Or.inl ⟨by omega, by omega⟩⟩, c2, c3⟩
theorem without_eq {kd se : Nat → Nat} {w k v sd sd' : Nat} (h : ∀ b, sd.testBit b = true ↔ ∃ m i, m ≤ 4 ∧ Seen w 6 0 m i ∧ good kd se w k m i = true ∧ ringM kd se w k m i = b ∧ hasNo w m i v) (h' : Bits kd se w k 5 0 (some v) sd') : sd = sd' := by
  refine bit_eq (fun b => ?_)
  rw [h, h'.2]
  constructor
  · rintro ⟨m, i, a1, a2, a3, a4, a5⟩
    obtain ⟨b1, b2, b3⟩ := seen6 a2
    exact ⟨m, i, ⟨b2, Or.inl ⟨by omega, b3⟩⟩, a4, by rw [← a4]; exact good_16 a3, fun k hk e => a5 k hk (Option.some.inj e)⟩
  · rintro ⟨m, i, a1, a2, a3, a4⟩
    obtain ⟨b1, b2, b3⟩ := seen_lt (Nat.zero_le _) a1
    have hm : m ≤ 4 := by obtain ⟨c, d | d⟩ := a1 <;> omega
    obtain ⟨i', c1, c2, c3, c4⟩ := good_rot b3 b2 b1 a2 a3
    exact ⟨m, i', hm, ⟨b2, Or.inl ⟨by omega, by omega⟩⟩, c2, c3, c4 v (fun k hk e => a4 k hk (by rw [e]))⟩
theorem say_k {N w k : Nat} {kd se : Nat → Nat} {kinds sets kinds' sets' few fst cnt wo row F G tr : Nat → Int32} {vk kn sd : Int32} (hN : 8000 < N) (hK : KS w kd se kinds sets) (hK' : KS w kd se kinds' sets') (hk : k ≤ 4) (hE : SK w kd se k vk kn sd few fst cnt wo) (hB : RF F G) {Ψ : Int32 → Int32 → Int32 → Int32 → (Nat → Int32) → (Nat → Int32) → (Nat → Int32) → (Nat → Int32) → (Nat → Int32) → (Nat → Int32) → (Nat → Int32) → (Nat → Int32) → Prop}
    (hΨ : ∀ r kn sd few fst cnt wo row F G tr, SK w kd se k vk kn sd few fst cnt wo → RF F G → Ψ r r kn sd few fst cnt wo row F G tr) :
    wp_X11_sayable N (nI k) (nI w) kinds sets vk kn sd few fst cnt wo row F (fun r o0 o1 o2 o3 o4 o5 o6 o7 => wp_X12_sayable N (nI k) (nI w) G kinds' sets' tr (fun r' p0 p1 => Ψ r r' o0 o1 o2 o3 o4 o5 o6 o7 p0 p1)) := by
  obtain ⟨rfl, hE2⟩ := id hE
  have v5 : vp_in (nI k) 5 := in_nI (by omega) (by omega)
  refine ir_some (by omega) (br_f (by decide) ⟨v5, look_X hN hK hk hE2 (fun said few' fst' cnt' wo' row' hS => ⟨v5, ?_⟩)⟩)
  have hE' : SK w kd se k (nI k) 1 said few' fst' cnt' wo' := ⟨rfl, Or.inr ⟨rfl, hS⟩⟩
  obtain ⟨s0, rfl, -, s2⟩ := hS.2.1
  refine nk_some (by omega) (br_t rfl (sets_M (wo := none) hN hK' hk (fun v h => by cases h) (fun sd' F' hb => ?_)))
  obtain rfl := said_eq s2 hb
  exact hΨ _ _ _ _ _ _ _ _ _ _ _ hE' hB
theorem say_bad {N w : Nat} {kinds sets kinds' sets' few fst cnt wo row F G tr : Nat → Int32} {x1 vk kn sd : Int32} (hx : x1 < 0 ∨ nI 5 ≤ x1) (hB : RF F G) {Ψ : Int32 → Int32 → Int32 → Int32 → (Nat → Int32) → (Nat → Int32) → (Nat → Int32) → (Nat → Int32) → (Nat → Int32) → (Nat → Int32) → (Nat → Int32) → (Nat → Int32) → Prop}
    (hΨ : ∀ r F G, RF F G → Ψ r r kn sd few fst cnt wo row F G tr) :
    wp_X11_sayable N x1 (nI w) kinds sets vk kn sd few fst cnt wo row F (fun r o0 o1 o2 o3 o4 o5 o6 o7 => wp_X12_sayable N x1 (nI w) G kinds' sets' tr (fun r' p0 p1 => Ψ r r' o0 o1 o2 o3 o4 o5 o6 o7 p0 p1)) :=
  ir_out hx (br_t rfl (ref_X r2 (nk_out hx (br_f (by decide) (no_M r2 (hΨ _ _ _ (RF_up hB r2)))))))
theorem op16 {N : Nat} (hN : 8000 < N) : zop16 N Inv := by
  intro vi fa wi ga x1 hI
  obtain ⟨w, r, n, q, kd, se, gw, st, rk, re, rw, rg, pa, pb, t, e2, e3, e4, e5, m0, m1, m2, m3, c1, c7, hT, hT', hR, hR', hP, hP', hB, hC, hD, hE0, hE1, hE2, hE3, hE4, hF, hG, hH⟩ := hI
  obtain ⟨hK, -, -⟩ := id hT
  obtain ⟨hK', -, -⟩ := id hT'
  rw [e2, m0]
  refine ⟨?_, ?_, ?_, ?_, ?_, ?_⟩
  · rintro rfl
    exact say_k (k := 0) hN hK hK' (by omega) hE0 hB (fun ra kn sd few fst cnt wo row F G tr a b => ⟨rfl, w, r, n, q, kd, se, gw, st, rk, re, rw, rg, pa, pb, t, (by first | exact e2 | rfl), (by first | exact e3 | rfl), (by first | exact e4 | rfl), (by first | exact e5 | rfl), (by first | exact m0 | rfl), (by first | exact m1 | rfl), (by first | exact m2 | rfl), (by first | exact m3 | rfl), (by first | exact c1 | rfl), (by first | exact c7 | rfl), hT, hT', hR, hR', hP, hP', b, hC, hD, a, hE1, hE2, hE3, hE4, hF, hG, hH⟩)
  · rintro rfl
    exact say_k (k := 1) hN hK hK' (by omega) hE1 hB (fun ra kn sd few fst cnt wo row F G tr a b => ⟨rfl, w, r, n, q, kd, se, gw, st, rk, re, rw, rg, pa, pb, t, (by first | exact e2 | rfl), (by first | exact e3 | rfl), (by first | exact e4 | rfl), (by first | exact e5 | rfl), (by first | exact m0 | rfl), (by first | exact m1 | rfl), (by first | exact m2 | rfl), (by first | exact m3 | rfl), (by first | exact c1 | rfl), (by first | exact c7 | rfl), hT, hT', hR, hR', hP, hP', b, hC, hD, hE0, a, hE2, hE3, hE4, hF, hG, hH⟩)
  · rintro rfl
    exact say_k (k := 2) hN hK hK' (by omega) hE2 hB (fun ra kn sd few fst cnt wo row F G tr a b => ⟨rfl, w, r, n, q, kd, se, gw, st, rk, re, rw, rg, pa, pb, t, (by first | exact e2 | rfl), (by first | exact e3 | rfl), (by first | exact e4 | rfl), (by first | exact e5 | rfl), (by first | exact m0 | rfl), (by first | exact m1 | rfl), (by first | exact m2 | rfl), (by first | exact m3 | rfl), (by first | exact c1 | rfl), (by first | exact c7 | rfl), hT, hT', hR, hR', hP, hP', b, hC, hD, hE0, hE1, a, hE3, hE4, hF, hG, hH⟩)
  · rintro rfl
    exact say_k (k := 3) hN hK hK' (by omega) hE3 hB (fun ra kn sd few fst cnt wo row F G tr a b => ⟨rfl, w, r, n, q, kd, se, gw, st, rk, re, rw, rg, pa, pb, t, (by first | exact e2 | rfl), (by first | exact e3 | rfl), (by first | exact e4 | rfl), (by first | exact e5 | rfl), (by first | exact m0 | rfl), (by first | exact m1 | rfl), (by first | exact m2 | rfl), (by first | exact m3 | rfl), (by first | exact c1 | rfl), (by first | exact c7 | rfl), hT, hT', hR, hR', hP, hP', b, hC, hD, hE0, hE1, hE2, a, hE4, hF, hG, hH⟩)
  · rintro rfl
    exact say_k (k := 4) hN hK hK' (by omega) hE4 hB (fun ra kn sd few fst cnt wo row F G tr a b => ⟨rfl, w, r, n, q, kd, se, gw, st, rk, re, rw, rg, pa, pb, t, (by first | exact e2 | rfl), (by first | exact e3 | rfl), (by first | exact e4 | rfl), (by first | exact e5 | rfl), (by first | exact m0 | rfl), (by first | exact m1 | rfl), (by first | exact m2 | rfl), (by first | exact m3 | rfl), (by first | exact c1 | rfl), (by first | exact c7 | rfl), hT, hT', hR, hR', hP, hP', b, hC, hD, hE0, hE1, hE2, hE3, a, hF, hG, hH⟩)
  · intro hx
    exact say_bad (bad5 hx) hB (fun ra F G b => ⟨rfl, w, r, n, q, kd, se, gw, st, rk, re, rw, rg, pa, pb, t, (by first | exact e2 | rfl), (by first | exact e3 | rfl), (by first | exact e4 | rfl), (by first | exact e5 | rfl), (by first | exact m0 | rfl), (by first | exact m1 | rfl), (by first | exact m2 | rfl), (by first | exact m3 | rfl), (by first | exact c1 | rfl), (by first | exact c7 | rfl), hT, hT', hR, hR', hP, hP', b, hC, hD, hE0, hE1, hE2, hE3, hE4, hF, hG, hH⟩)
def ndS (p : Nat → Bool) : Nat → Nat → Int32 → Int32
  | 0, _, x => x
  | l + 1, v, x => ndS p l (v + 1) (if p v then x else x ||| ((1 : Int32) <<< (nI v &&& 31)))
theorem nd_X {N w : Nat} {kn said : Int32} {few fst cnt wo row : Nat → Int32} {Φ : Int32 → Int32 → Int32 → (Nat → Int32) → (Nat → Int32) → (Nat → Int32) → (Nat → Int32) → (Nat → Int32) → Prop} (hw : w ≤ 6) :
    ∀ (l v fuel : Nat) (x : Int32), v + l = w → l < fuel → Φ (ndS (fun v => decide (wo v = said)) l v x) kn said few fst cnt wo row → lp_X11_needed_22 N (nI w) kn said few fst cnt wo row Φ fuel x (nI v) := by
  intro l
  induction l with
  | zero =>
    intro v fuel x hv hf h
    obtain ⟨z, rfl⟩ : ∃ z, fuel = z + 1 := ⟨fuel - 1, by omega⟩
    rw [lp_X11_needed_22]
    exact br_t (nI_le (by omega) (by omega)) h
  | succ l ih =>
    intro v fuel x hv hf h
    obtain ⟨z, rfl⟩ : ∃ z, fuel = z + 1 := ⟨fuel - 1, by omega⟩
    rw [ndS] at h
    rw [lp_X11_needed_22, nI_1 v, nI_clamp (show v < 2 ^ 31 by omega)]
    refine br_f (nI_ge (by omega) (by omega)) ⟨in_nI (by omega) (by omega), br_c (fun c => ?_) (fun c => ?_)⟩
    · rw [decide_eq_true c] at h
      exact ih (v + 1) z _ (by omega) (by omega) h
    · rw [decide_eq_false c] at h
      exact ih (v + 1) z _ (by omega) (by omega) h
theorem nd_M {N w : Nat} {kd se : Nat → Nat} {said : Int32} {kinds sets few fst cnt wo : Nat → Int32} {Φ : Int32 → (Nat → Int32) → Prop} (hN : 8000 < N) (hK : KS w kd se kinds sets) (hS : SV kd se w 0 6 0 said few fst cnt wo) :
    ∀ (l v fuel : Nat) (x : Int32) (tr : Nat → Int32), v + l = w → l < fuel → (∀ tr, Φ (ndS (fun v => decide (wo v = said)) l v x) tr) → lp_X12_needed_11 N said (nI w) kinds sets Φ fuel x (nI v) tr := by
  have hw := hK.1
  intro l
  induction l with
  | zero =>
    intro v fuel x tr hv hf h
    obtain ⟨z, rfl⟩ : ∃ z, fuel = z + 1 := ⟨fuel - 1, by omega⟩
    rw [lp_X12_needed_11]
    exact br_t (nI_le (by omega) (by omega)) (h tr)
  | succ l ih =>
    intro v fuel x tr hv hf h
    obtain ⟨z, rfl⟩ : ∃ z, fuel = z + 1 := ⟨fuel - 1, by omega⟩
    rw [ndS] at h
    rw [lp_X12_needed_11, nI_1 v, i_or0]
    refine br_f (nI_ge (by omega) (by omega)) ?_
    show wp_X12_sets N (nI 0) (ow (some v)) (nI w) kinds sets tr _
    refine sets_M hN hK (by omega) (fun u hu => by cases hu; omega) (fun sd' F' hb => ?_)
    obtain ⟨s0, s1, -, s2⟩ := hS.2.2.1 v (by omega)
    obtain rfl := without_eq s2 hb
    rw [← s1]
    refine br_c (fun c => ?_) (fun c => ?_)
    · rw [decide_eq_true c] at h
      exact ih (v + 1) z _ F' (by omega) (by omega) h
    · rw [decide_eq_false c] at h
      exact ih (v + 1) z _ F' (by omega) (by omega) h
theorem op17 {N : Nat} (hN : 8000 < N) : zop17 N Inv := by
  intro vi fa wi ga hI
  obtain ⟨w, r, n, q, kd, se, gw, st, rk, re, rw, rg, pa, pb, t, e2, e3, e4, e5, m0, m1, m2, m3, c1, c7, hT, hT', hR, hR', hP, hP', hB, hC, hD, hE0, hE1, hE2, hE3, hE4, hF, hG, hH⟩ := hI
  obtain ⟨hK, -, -⟩ := id hT
  obtain ⟨hK', -, -⟩ := id hT'
  have hw6 := hK.1
  obtain ⟨k0, k1⟩ := id hE0
  rw [e2, m0]
  unfold wp_X11_needed
  rw [k0]
  refine look_X hN hK (by omega) k1 (fun said few' fst' cnt' wo' row' hS => ?_)
  refine nd_X hw6 w 0 N 0 (by omega) (by omega) ?_
  unfold wp_X12_needed
  show wp_X12_sets N (nI 0) (ow none) (nI w) _ _ _ _
  refine sets_M hN hK' (by omega) (fun u hu => by cases hu) (fun sd' F' hb => ?_)
  obtain ⟨s0, s1, -, s2⟩ := hS.2.1
  obtain rfl := said_eq s2 hb
  rw [← s1]
  exact nd_M hN hK' hS w 0 N 0 F' (by omega) (by omega) (fun tr => ⟨rfl, w, r, n, q, kd, se, gw, st, rk, re, rw, rg, pa, pb, t, (by first | exact e2 | rfl), (by first | exact e3 | rfl), (by first | exact e4 | rfl), (by first | exact e5 | rfl), (by first | exact m0 | rfl), (by first | exact m1 | rfl), (by first | exact m2 | rfl), (by first | exact m3 | rfl), (by first | exact c1 | rfl), (by first | exact c7 | rfl), hT, hT', hR, hR', hP, hP', hB, hC, hD, ⟨k0, Or.inr ⟨rfl, hS⟩⟩, hE1, hE2, hE3, hE4, hF, hG, hH⟩)
/-! each -/
theorem op14 {N : Nat} (hN : 8000 < N) : zop14 N Inv := by
  intro vi fa wi ga x1 hI
  obtain ⟨w, r, n, q, kd, se, gw, st, rk, re, rw, rg, pa, pb, t, e2, e3, e4, e5, m0, m1, m2, m3, c1, c7, hT, hT', hR, hR', hP, hP', hB, hC, hD, hE0, hE1, hE2, hE3, hE4, hF, hG, hH⟩ := hI
  obtain ⟨hK, hD6, -⟩ := id hT
  obtain ⟨hK', hD6', -⟩ := id hT'
  rw [e2, e3, m0, m1]
  by_cases c : -1 ≤ x1
  · refine br_t c (each_X hN hK hD6 hF (fun places ring hE => ?_))
    have hF' : EK w r kd se rk re rw 1 places ring := Or.inr ⟨rfl, hE⟩
    rcases hE with ⟨rfl, hno⟩ | ⟨n', i, g1, g2, g3, g4, g5, rfl, g7⟩
    · have go : ∀ {Φ : Int32 → (Nat → Int32) → (Nat → Int32) → Prop}, (∀ o, ((0 ≤ x1 → ((-9 : Int32) ≤ x1 → Φ (-9) (ga 0) o) ∧ (¬ (-9 : Int32) ≤ x1 → vp_in x1 6 ∧ Φ (o (Int32.toNatClampNeg x1)) (ga 0) o)) ∧ (¬ 0 ≤ x1 → Φ (-9) (ga 0) o))) → wp_X12_each N x1 (nI w) (nI r) (ga 0) (ga 1) (ga 2) (ga 5) (ga 6) (ga 7) (ga 17) Φ := fun a => br_t c (leastEach_M hN hK' hD6' (fun _ F => a F) (fun n i F h1 h5 hi e _ _ => by
          rw [hno n i ⟨h1, Or.inl ⟨by omega, hi⟩⟩] at e; cases e))
      rcases m1_or c with rfl | ⟨j, hj, rfl⟩
      · exact br_t rfl (br_t rfl (go (fun o => br_f (by decide) ⟨rfl, w, r, n, q, kd, se, gw, st, rk, re, rw, rg, pa, pb, t, (by first | exact e2 | rfl), (by first | exact e3 | rfl), (by first | exact e4 | rfl), (by first | exact e5 | rfl), (by first | exact m0 | rfl), (by first | exact m1 | rfl), (by first | exact m2 | rfl), (by first | exact m3 | rfl), (by first | exact c1 | rfl), (by first | exact c7 | rfl), hT, hT', hR, hR', hP, hP', hB, hC, hD, hE0, hE1, hE2, hE3, hE4, hF', hG, hH⟩)))
      · have p0 : 0 ≤ nI j := nI_pos' hj
        exact br_f (nI_m1 hj) (br_t p0 (go (fun o => br_t p0 (br_t (m9_le hj) ⟨rfl, w, r, n, q, kd, se, gw, st, rk, re, rw, rg, pa, pb, t, (by first | exact e2 | rfl), (by first | exact e3 | rfl), (by first | exact e4 | rfl), (by first | exact e5 | rfl), (by first | exact m0 | rfl), (by first | exact m1 | rfl), (by first | exact m2 | rfl), (by first | exact m3 | rfl), (by first | exact c1 | rfl), (by first | exact c7 | rfl), hT, hT', hR, hR', hP, hP', hB, hC, hD, hE0, hE1, hE2, hE3, hE4, hF', hG, hH⟩))))
    · have go : ∀ {Φ : Int32 → (Nat → Int32) → (Nat → Int32) → Prop}, (∀ o, RN n' (itR w n' i) o → ((0 ≤ x1 → (nI n' ≤ x1 → Φ (-9) (ga 0) o) ∧ (¬ nI n' ≤ x1 → vp_in x1 6 ∧ Φ (o (Int32.toNatClampNeg x1)) (ga 0) o)) ∧ (¬ 0 ≤ x1 → Φ (nI n') (ga 0) o))) → wp_X12_each N x1 (nI w) (nI r) (ga 0) (ga 1) (ga 2) (ga 5) (ga 6) (ga 7) (ga 17) Φ := fun a => br_t c (leastEach_M hN hK' hD6' (fun hno F => by
          rw [hno n' i ⟨g1, Or.inl ⟨by omega, g3⟩⟩] at g4; cases g4) (fun n2 i2 F h1 h5 hi e hb hR => by
          obtain ⟨rfl, rfl⟩ := first_one (P := fun a b => ringOK kd se rk re rw w r a b = true) h1 g1 hi g3 e g4 (fun m' i' h => by rw [hb m' i' h]; simp) (fun m' i' h => by rw [g5 m' i' h]; simp)
          exact a F hR))
      rcases m1_or c with rfl | ⟨j, hj, rfl⟩
      · exact br_t rfl (br_f (nI_ne0 (by omega) (by omega)) (go (fun o _ => br_f (by decide) ⟨rfl, w, r, n, q, kd, se, gw, st, rk, re, rw, rg, pa, pb, t, (by first | exact e2 | rfl), (by first | exact e3 | rfl), (by first | exact e4 | rfl), (by first | exact e5 | rfl), (by first | exact m0 | rfl), (by first | exact m1 | rfl), (by first | exact m2 | rfl), (by first | exact m3 | rfl), (by first | exact c1 | rfl), (by first | exact c7 | rfl), hT, hT', hR, hR', hP, hP', hB, hC, hD, hE0, hE1, hE2, hE3, hE4, hF', hG, hH⟩)))
      · have p0 : 0 ≤ nI j := nI_pos' hj
        refine br_f (nI_m1 hj) (br_c (fun d => ?_) (fun d => ?_))
        · exact go (fun o _ => br_t p0 (br_t d ⟨rfl, w, r, n, q, kd, se, gw, st, rk, re, rw, rg, pa, pb, t, (by first | exact e2 | rfl), (by first | exact e3 | rfl), (by first | exact e4 | rfl), (by first | exact e5 | rfl), (by first | exact m0 | rfl), (by first | exact m1 | rfl), (by first | exact m2 | rfl), (by first | exact m3 | rfl), (by first | exact c1 | rfl), (by first | exact c7 | rfl), hT, hT', hR, hR', hP, hP', hB, hC, hD, hE0, hE1, hE2, hE3, hE4, hF', hG, hH⟩))
        · have hjn : j < n' := by
            rcases Nat.lt_or_ge j n' with y | y
            · exact y
            · exact absurd (nI_le y hj) d
          rw [nI_clamp hj]
          refine ⟨in_nI (by omega) (by omega), go (fun o ho => br_t p0 (br_f d ⟨in_nI (by omega) (by omega), ?_⟩))⟩
          rw [nI_clamp hj, ho j hjn, g7 j hjn]
          exact ⟨rfl, w, r, n, q, kd, se, gw, st, rk, re, rw, rg, pa, pb, t, (by first | exact e2 | rfl), (by first | exact e3 | rfl), (by first | exact e4 | rfl), (by first | exact e5 | rfl), (by first | exact m0 | rfl), (by first | exact m1 | rfl), (by first | exact m2 | rfl), (by first | exact m3 | rfl), (by first | exact c1 | rfl), (by first | exact c7 | rfl), hT, hT', hR, hR', hP, hP', hB, hC, hD, hE0, hE1, hE2, hE3, hE4, hF', hG, hH⟩
  · exact br_f c (ref_X r4 (br_f c (no_M r4 ⟨rfl, w, r, n, q, kd, se, gw, st, rk, re, rw, rg, pa, pb, t, (by first | exact e2 | rfl), (by first | exact e3 | rfl), (by first | exact e4 | rfl), (by first | exact e5 | rfl), (by first | exact m0 | rfl), (by first | exact m1 | rfl), (by first | exact m2 | rfl), (by first | exact m3 | rfl), (by first | exact c1 | rfl), (by first | exact c7 | rfl), hT, hT', hR, hR', hP, hP', RF_up hB r4, hC, hD, hE0, hE1, hE2, hE3, hE4, hF, hG, hH⟩)))
