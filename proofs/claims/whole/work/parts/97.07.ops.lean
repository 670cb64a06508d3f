/-! worn: the reference goes through the fillings -/
theorem bk_le {rg : Nat → Option Nat} : ∀ i, bk rg i ≤ i := by
  intro i
  induction i with
  | zero => exact Nat.le_refl _
  | succ i ih => rw [bk]; split <;> omega
set_option maxHeartbeats 4000000 in
theorem fill_loop {N w r n : Nat} {kd se gw rk re rw : Nat → Nat} {rg : Nat → Option Nat} {kinds sets weights readers eighths wishes ring : Nat → Int32} {Φ : Int32 → Int32 → (Nat → Int32) → (Nat → Int32) → (Nat → Int32) → (Nat → Int32) → Prop} (hN : 8000 < N) (hK : KS w kd se kinds sets) (hD : RD r rk re rw readers eighths wishes) (hg : ∀ v, v < w → weights v = nI (gw v) ∧ gw v ≤ 9) (hb1 : 1 ≤ bk rg n) (hb : bk rg n ≤ 4) (hR : RW w n 12 rg ring) (hw0 : 0 < w)
    (hΦ : ∀ fit most trial filled mayBe best, WN kd se gw rk re rw w r n rg (w ^ bk rg n) fit most best mayBe → Φ fit most trial filled mayBe best) :
    ∀ (l j fuel : Nat) (fit most : Int32) (trial filled mayBe best : Nat → Int32), j + l + 1 = w ^ bk rg n → l < fuel → RN (bk rg n) (itR w (bk rg n) j) trial → WN kd se gw rk re rw w r n rg j fit most best mayBe → lp_X12_fill_45 N (nI (bk rg n)) (nI w) (nI r) (nI n) kinds sets weights readers eighths wishes ring Φ fuel fit most trial filled mayBe best := by
  have hw := hK.1
  have hn := hR.1
  have hp := pow6 hw (show bk rg n ≤ 5 by omega)
  have hv : ∀ i, i < n → ∀ v, rg i = some v → v < w := fun i hi => (hR.2.2 i hi).2
  intro l
  induction l with
  | zero =>
    intro j fuel fit most trial filled mayBe best hj hf hT hW
    obtain ⟨z, rfl⟩ : ∃ z, fuel = z + 1 := ⟨fuel - 1, by omega⟩
    have hd : ∀ i, i < bk rg n → itR w (bk rg n) j i < w := fun i hi => it_dig hw0 j i hi
    have hfl := fl_lt (f := itR w (bk rg n) j) hd hv
    have hmo := it_more (n := bk rg n) hw0 (show j < w ^ bk rg n by omega)
    rw [decide_eq_false (by omega)] at hmo
    have fin : ∀ fit most trial filled mayBe best, WN kd se gw rk re rw w r n rg (j + 1) fit most best mayBe → Φ fit most trial filled mayBe best := by rw [show j + 1 = w ^ bk rg n by omega]; exact hΦ
    have nxt : ∀ fit most filled mayBe best, WN kd se gw rk re rw w r n rg (j + 1) fit most best mayBe → ex_X12_fill_226 N (nI (bk rg n)) (nI w) (nI r) (nI n) fit most kinds sets weights readers eighths wishes ring trial filled mayBe best Φ (lp_X12_fill_45 N (nI (bk rg n)) (nI w) (nI r) (nI n) kinds sets weights readers eighths wishes ring Φ z) := fun fit most filled mayBe best h => next_M (by omega) (by omega) hw hT hd (fun F' hF' => by
      rw [hmo]
      exact br_t rfl (fin _ _ _ _ _ _ h))
    rw [lp_X12_fill_45]
    refine fi_M (g := gw) (f := itR w (bk rg n) j) hn hb (fun i hi => (hR.2.2 i hi).1) (fun i hi v h => by have := hv i hi v h; omega) hT (fun i hi => ⟨by have := hd i hi; omega, (hg _ (hd i hi)).1⟩) (fun filled' hf' => ?_) n 0 N filled (by omega) (by omega) (fun q hq => by omega)
    unfold ex_X12_fill_122
    refine aw_M (by omega) hK (RW_sm hn (by omega) hf' hfl) hD ?_
    show (bI (okW kd se rk re rw w r n rg j) = 0 → _) ∧ (¬ bI (okW kd se rk re rw w r n rg j) = 0 → _)
    cases e : okW kd se rk re rw w r n rg j with
    | false => exact br_t rfl (nxt _ _ _ _ _ (RWS_skip e hW))
    | true =>
      refine br_f (by decide) (mb_M (g := flR rg (itR w (bk rg n) j)) (seen0 := mayBe) hn (fun i hi => ⟨hf' i hi, by have := hfl i hi; omega⟩) (fun mayBe' hs' => ?_) n 0 N mayBe (by omega) (by omega) (fun p hp => by omega) (fun p _ => rfl))
      unfold ex_X12_fill_184
      have hadd := RWS_add (fb := fun j => itR w (bk rg n) j) (fr := fun j => flR rg (itR w (bk rg n) j)) e (prW_lt hw0 hb (fun v hv => (hg v hv).2)) (fun p hp => by have := hfl p hp; omega) hW hs'
      refine br_c (fun c => nxt _ _ _ _ _ (hadd.1 c)) (fun c => ?_)
      exact bf_M hb hT (fun best' hb' => nxt _ _ _ _ _ (hadd.2 c best' hb')) (bk rg n) 0 N best (by omega) (by omega) (fun q hq => by omega)
  | succ l ih =>
    intro j fuel fit most trial filled mayBe best hj hf hT hW
    obtain ⟨z, rfl⟩ : ∃ z, fuel = z + 1 := ⟨fuel - 1, by omega⟩
    have hd : ∀ i, i < bk rg n → itR w (bk rg n) j i < w := fun i hi => it_dig hw0 j i hi
    have hfl := fl_lt (f := itR w (bk rg n) j) hd hv
    have hmo := it_more (n := bk rg n) hw0 (show j < w ^ bk rg n by omega)
    rw [decide_eq_true (by omega)] at hmo
    have nxt : ∀ fit most filled mayBe best, WN kd se gw rk re rw w r n rg (j + 1) fit most best mayBe → ex_X12_fill_226 N (nI (bk rg n)) (nI w) (nI r) (nI n) fit most kinds sets weights readers eighths wishes ring trial filled mayBe best Φ (lp_X12_fill_45 N (nI (bk rg n)) (nI w) (nI r) (nI n) kinds sets weights readers eighths wishes ring Φ z) := fun fit most filled mayBe best h => next_M (by omega) (by omega) hw hT hd (fun F' hF' => by
      rw [hmo]
      exact br_f (by decide) (ih (j + 1) z _ _ _ _ _ _ (by omega) (by omega) hF' h))
    rw [lp_X12_fill_45]
    refine fi_M (g := gw) (f := itR w (bk rg n) j) hn hb (fun i hi => (hR.2.2 i hi).1) (fun i hi v h => by have := hv i hi v h; omega) hT (fun i hi => ⟨by have := hd i hi; omega, (hg _ (hd i hi)).1⟩) (fun filled' hf' => ?_) n 0 N filled (by omega) (by omega) (fun q hq => by omega)
    unfold ex_X12_fill_122
    refine aw_M (by omega) hK (RW_sm hn (by omega) hf' hfl) hD ?_
    show (bI (okW kd se rk re rw w r n rg j) = 0 → _) ∧ (¬ bI (okW kd se rk re rw w r n rg j) = 0 → _)
    cases e : okW kd se rk re rw w r n rg j with
    | false => exact br_t rfl (nxt _ _ _ _ _ (RWS_skip e hW))
    | true =>
      refine br_f (by decide) (mb_M (g := flR rg (itR w (bk rg n) j)) (seen0 := mayBe) hn (fun i hi => ⟨hf' i hi, by have := hfl i hi; omega⟩) (fun mayBe' hs' => ?_) n 0 N mayBe (by omega) (by omega) (fun p hp => by omega) (fun p _ => rfl))
      unfold ex_X12_fill_184
      have hadd := RWS_add (fb := fun j => itR w (bk rg n) j) (fr := fun j => flR rg (itR w (bk rg n) j)) e (prW_lt hw0 hb (fun v hv => (hg v hv).2)) (fun p hp => by have := hfl p hp; omega) hW hs'
      refine br_c (fun c => nxt _ _ _ _ _ (hadd.1 c)) (fun c => ?_)
      exact bf_M hb hT (fun best' hb' => nxt _ _ _ _ _ (hadd.2 c best' hb')) (bk rg n) 0 N best (by omega) (by omega) (fun q hq => by omega)
theorem zero_M {N : Nat} {Φ : Int32 → Int32 → (Nat → Int32) → (Nat → Int32) → (Nat → Int32) → (Nat → Int32) → Prop} {k : (Nat → Int32) → Prop} (hk : ∀ F, (∀ i, i < 12 → F i = 0) → k F) :
    ∀ (l i fuel : Nat) (F : Nat → Int32), i + l = 12 → l < fuel → (∀ q, q < i → F q = 0) → lp_X12_fill_13 N Φ k fuel (nI i) F := by
  intro l
  induction l with
  | zero =>
    intro i fuel F hi hf h
    obtain ⟨z, rfl⟩ : ∃ z, fuel = z + 1 := ⟨fuel - 1, by omega⟩
    rw [lp_X12_fill_13]
    obtain rfl : i = 12 := by omega
    exact br_t (by decide) (hk F h)
  | succ l ih =>
    intro i fuel F hi hf h
    obtain ⟨z, rfl⟩ : ∃ z, fuel = z + 1 := ⟨fuel - 1, by omega⟩
    rw [lp_X12_fill_13, nI_1 i, nI_clamp (show i < 2 ^ 31 by omega)]
    refine br_f (nI_ge (b := 12) (by omega) (by omega)) ⟨in_nI (by omega) (by omega), ih (i + 1) z _ (by omega) (by omega) (fun q hq => ?_)⟩
    by_cases e : q = i
    · subst e; exact pk_us
    · rw [pk_un e]; exact h q (by omega)
theorem fill_M {N w r n : Nat} {kd se gw rk re rw : Nat → Nat} {rg : Nat → Option Nat} {kinds sets weights readers eighths wishes ring trial0 filled0 mayBe0 best0 : Nat → Int32} {fit0 most0 : Int32} {Φ : Int32 → Int32 → (Nat → Int32) → (Nat → Int32) → (Nat → Int32) → (Nat → Int32) → Prop} (hN : 8000 < N) (hK : KS w kd se kinds sets) (hD : RD r rk re rw readers eighths wishes) (hg : ∀ v, v < w → weights v = nI (gw v) ∧ gw v ≤ 9) (hb1 : 1 ≤ bk rg n) (hb : bk rg n ≤ 4) (hR : RW w n 12 rg ring)
    (hΦ : ∀ fit most trial filled mayBe best, WN kd se gw rk re rw w r n rg (w ^ bk rg n) fit most best mayBe → Φ fit most trial filled mayBe best) :
    wp_X12_fill N (nI (bk rg n)) (nI w) (nI r) (nI n) fit0 most0 kinds sets weights readers eighths wishes ring trial0 filled0 mayBe0 best0 Φ := by
  have hw := hK.1
  have hn := hR.1
  have hp := pow6 hw (show bk rg n ≤ 5 by omega)
  unfold wp_X12_fill
  refine zero_M (fun F hF => ?_) 12 0 N mayBe0 (by omega) (by omega) (fun q hq => by omega)
  have h0 : ∀ bf, WN kd se gw rk re rw w r n rg 0 0 (-9) bf F := fun bf => RWS_0 (fun p hp => hF p (by omega))
  unfold ex_X12_fill_32
  rcases Nat.eq_zero_or_pos w with e | hw0
  · subst e
    refine br_t rfl (hΦ _ _ _ _ _ _ ?_)
    rw [Nat.zero_pow (by omega)]
    exact h0 _
  · refine br_f (nI_ne0 hw0 (by omega)) (begin_M (by omega) (by omega) (fun F' hF' => ?_))
    have hp0 := pow_pos' (n := bk rg n) hw0
    exact fill_loop hN hK hD hg hb1 hb hR hw0 hΦ (w ^ bk rg n - 1) 0 N 0 (-9) F' filled0 F best0 (by omega) (by omega) hF' (h0 _)
theorem wBest_some {ok : Nat → Bool} {pr : Nat → Nat} : ∀ j, 0 < cnt ok j → (wBest ok pr j).isSome = true := by
  intro j
  induction j with
  | zero => intro h; rw [cnt] at h; omega
  | succ j ih =>
    intro h
    rw [cnt] at h
    rw [wBest]
    cases e : ok j with
    | false =>
      rw [e] at h
      simp at h ⊢
      exact ih h
    | true =>
      cases e2 : wBest ok pr j with
      | none => simp [better]
      | some q =>
        split
        · rfl
        · rfl
theorem isw_no {N n w : Nat} {rg : Nat → Option Nat} {f : Nat → Int32} {Φ : Int32 → Prop} (hN : 100 < N) (hR : RW w n 12 rg f) (hw : w ≤ 6) (h : bk rg n < 1 ∨ 4 < bk rg n) (k : Φ 0) : wp_X11_isWorn N (nI n) f Φ := by
  have hn := hR.1
  have hb := bk_le (rg := rg) n
  refine blanks_X hN hR hw (br_c (fun _ => k) (fun c => br_c (fun _ => k) (fun d => ?_)))
  rcases h with h | h
  · exact absurd (nI_lt (b := 1) h (by omega)) c
  · exact absurd (nI_lt (a := 4) h (by omega)) d
theorem isw_yes {N n w : Nat} {rg : Nat → Option Nat} {f : Nat → Int32} {Φ : Int32 → Prop} (hN : 100 < N) (hR : RW w n 12 rg f) (hw : w ≤ 6) (h1 : 1 ≤ bk rg n) (h4 : bk rg n ≤ 4) (k : Φ 1) : wp_X11_isWorn N (nI n) f Φ :=
  blanks_X hN hR hw (br_f (nI_nlt (b := 1) h1 (by omega)) (br_f (nI_nlt (a := 4) h4 (by omega)) k))
theorem br_no {b : Nat} (h : b < 1 ∨ 4 < b) (hb : b < 100) {A B : Prop} (k : A) : (nI b < 1 → A) ∧ (¬ nI b < 1 → (nI b ≤ 4 → B) ∧ (¬ nI b ≤ 4 → A)) := by
  refine br_c (fun _ => k) (fun c => br_c (fun d => ?_) (fun _ => k))
  rcases h with h | h
  · exact absurd (nI_lt (b := 1) h (by omega)) c
  · exact absurd d (nI_ge (a := 4) h (by omega))
theorem br_yes {b : Nat} (h1 : 1 ≤ b) (h4 : b ≤ 4) {A B C : Prop} (k : B) : (nI b < 1 → A) ∧ (¬ nI b < 1 → (nI b ≤ 4 → B) ∧ (¬ nI b ≤ 4 → C)) :=
  br_f (nI_nlt (b := 1) h1 (by omega)) (br_t (nI_le (b := 4) h4 (by omega)) k)
theorem two_out {x : Int32} (h : x < 0 ∨ nI 2 ≤ x) : ¬ x = 0 ∧ ¬ x = 1 := by
  refine ⟨?_, ?_⟩
  · rintro rfl
    rcases h with h | h
    · exact absurd h (by decide)
    · exact absurd h (by decide)
  · rintro rfl
    rcases h with h | h
    · exact absurd h (by decide)
    · exact absurd h (by decide)
theorem op18 {N : Nat} (hN : 8000 < N) : zop18 N Inv := by
  intro vi fa wi ga x1 hI
  obtain ⟨w, r, n, q, kd, se, gw, st, rk, re, rw, rg, pa, pb, t, e2, e3, e4, e5, m0, m1, m2, m3, c1, c7, hT, hT', hR, hR', hP, hP', hB, hC, hD, hE0, hE1, hE2, hE3, hE4, hF, hG, hH⟩ := hI
  obtain ⟨hK, hD6, hg⟩ := id hT
  obtain ⟨hK', hD6', hg'⟩ := id hT'
  have hw6 := hK.1
  have hn := hR.1
  have hbl := bk_le (rg := rg) n
  have gg : ∀ v, v < w → fa 3 v = nI (gw v) ∧ gw v ≤ 9 := fun v hv => ⟨(hg v hv).1, (hg v hv).2.1⟩
  have gg' : ∀ v, v < w → ga 3 v = nI (gw v) ∧ gw v ≤ 9 := fun v hv => ⟨(hg' v hv).1, (hg' v hv).2.1⟩
  rw [e2, e3, e4, m0, m1, m2]
  rcases out x1 (n := 2) (by omega) with h | ⟨j, hj, rfl⟩
  · obtain ⟨a, b⟩ := two_out h
    refine br_f a (br_f b (ref_X r2 ?_))
    rcases h with h | h
    · exact br_t h (no_M r2 ⟨rfl, w, r, n, q, kd, se, gw, st, rk, re, rw, rg, pa, pb, t, (by first | exact e2 | rfl), (by first | exact e3 | rfl), (by first | exact e4 | rfl), (by first | exact e5 | rfl), (by first | exact m0 | rfl), (by first | exact m1 | rfl), (by first | exact m2 | rfl), (by first | exact m3 | rfl), (by first | exact c1 | rfl), (by first | exact c7 | rfl), hT, hT', hR, hR', hP, hP', RF_up hB r2, hC, hD, hE0, hE1, hE2, hE3, hE4, hF, hG, hH⟩)
    · exact br_f (nlt (ge_of (b := 0) h (by omega) (by omega))) (br_f (nbig (b := 1) h (by omega) (by omega)) (no_M r2 ⟨rfl, w, r, n, q, kd, se, gw, st, rk, re, rw, rg, pa, pb, t, (by first | exact e2 | rfl), (by first | exact e3 | rfl), (by first | exact e4 | rfl), (by first | exact e5 | rfl), (by first | exact m0 | rfl), (by first | exact m1 | rfl), (by first | exact m2 | rfl), (by first | exact m3 | rfl), (by first | exact c1 | rfl), (by first | exact c7 | rfl), hT, hT', hR, hR', hP, hP', RF_up hB r2, hC, hD, hE0, hE1, hE2, hE3, hE4, hF, hG, hH⟩))
  · have j0 : ¬ nI j < 0 := nI_pos (by omega)
    have j1 : nI j ≤ 1 := nI_le (b := 1) (by omega) (by omega)
    rcases (show (bk rg n < 1 ∨ 4 < bk rg n) ∨ (1 ≤ bk rg n ∧ bk rg n ≤ 4) by omega) with h | ⟨b1, b4⟩
    · have mm : ∀ {Φ : Int32 → Int32 → Int32 → (Nat → Int32) → (Nat → Int32) → (Nat → Int32) → (Nat → Int32) → (Nat → Int32) → Prop}, wp_X12_no N (-3) (ga 0) (fun r o => Φ r (wi 11) (wi 12) o (ga 17) (ga 18) (ga 19) (ga 20)) → wp_X12_worn N (nI j) (nI w) (nI r) (nI n) (wi 11) (wi 12) (ga 0) (ga 1) (ga 2) (ga 3) (ga 5) (ga 6) (ga 7) (ga 8) (ga 17) (ga 18) (ga 19) (ga 20) Φ := fun k => br_f j0 (br_t j1 (blanks_M (by omega) hR' hw6 (br_no h (by omega) k)))
      rcases (show j = 0 ∨ j = 1 by omega) with rfl | rfl
      · exact br_t rfl (isw_no (by omega) hR hw6 h (br_t rfl (ref_X r3 (mm (no_M r3 ⟨rfl, w, r, n, q, kd, se, gw, st, rk, re, rw, rg, pa, pb, t, (by first | exact e2 | rfl), (by first | exact e3 | rfl), (by first | exact e4 | rfl), (by first | exact e5 | rfl), (by first | exact m0 | rfl), (by first | exact m1 | rfl), (by first | exact m2 | rfl), (by first | exact m3 | rfl), (by first | exact c1 | rfl), (by first | exact c7 | rfl), hT, hT', hR, hR', hP, hP', RF_up hB r3, hC, hD, hE0, hE1, hE2, hE3, hE4, hF, hG, hH⟩)))))
      · exact br_f (by decide) (br_t rfl (isw_no (by omega) hR hw6 h (br_t rfl (ref_X r3 (mm (no_M r3 ⟨rfl, w, r, n, q, kd, se, gw, st, rk, re, rw, rg, pa, pb, t, (by first | exact e2 | rfl), (by first | exact e3 | rfl), (by first | exact e4 | rfl), (by first | exact e5 | rfl), (by first | exact m0 | rfl), (by first | exact m1 | rfl), (by first | exact m2 | rfl), (by first | exact m3 | rfl), (by first | exact c1 | rfl), (by first | exact c7 | rfl), hT, hT', hR, hR', hP, hP', RF_up hB r3, hC, hD, hE0, hE1, hE2, hE3, hE4, hF, hG, hH⟩))))))
    · have mm : ∀ {Φ : Int32 → Int32 → Int32 → (Nat → Int32) → (Nat → Int32) → (Nat → Int32) → (Nat → Int32) → (Nat → Int32) → Prop}, (∀ fit most trial filled mayBe best, WN kd se gw rk re rw w r n rg (w ^ bk rg n) fit most best mayBe → ((nI j = 0 → Φ fit fit most (ga 0) trial filled mayBe best) ∧ (¬ nI j = 0 → Φ most fit most (ga 0) trial filled mayBe best))) → wp_X12_worn N (nI j) (nI w) (nI r) (nI n) (wi 11) (wi 12) (ga 0) (ga 1) (ga 2) (ga 3) (ga 5) (ga 6) (ga 7) (ga 8) (ga 17) (ga 18) (ga 19) (ga 20) Φ := fun k => br_f j0 (br_t j1 (blanks_M (by omega) hR' hw6 (br_yes b1 b4 (fill_M hN hK' hD6' gg' b1 b4 hR' k))))
      rcases (show j = 0 ∨ j = 1 by omega) with rfl | rfl
      · refine br_t rfl (isw_yes (by omega) hR hw6 b1 b4 (br_f (by decide) (worn_X hN hK hD6 gg hn b1 b4 (fun i hi => (hR.2.2 i hi).1) (fun i hi => (hR.2.2 i hi).2) hG (fun many best bestFill seen whole holes fill hW => br_t rfl (mm (fun fit most trial filled mayBe best' hW' => br_t rfl ⟨hW.1.trans hW'.1.symm, ?_⟩))))))
        exact ⟨w, r, n, q, kd, se, gw, st, rk, re, rw, rg, pa, pb, t, (by first | exact e2 | rfl), (by first | exact e3 | rfl), (by first | exact e4 | rfl), (by first | exact e5 | rfl), (by first | exact m0 | rfl), (by first | exact m1 | rfl), (by first | exact m2 | rfl), (by first | exact m3 | rfl), (by first | exact c1 | rfl), (by first | exact c7 | rfl), hT, hT', hR, hR', hP, hP', hB, hC, hD, hE0, hE1, hE2, hE3, hE4, hF, Or.inr ⟨rfl, rfl, hW⟩, hH⟩
      · refine br_f (by decide) (br_t rfl (isw_yes (by omega) hR hw6 b1 b4 (br_f (by decide) (worn_X hN hK hD6 gg hn b1 b4 (fun i hi => (hR.2.2 i hi).1) (fun i hi => (hR.2.2 i hi).2) hG (fun many best bestFill seen whole holes fill hW => br_f (by decide) (mm (fun fit most trial filled mayBe best' hW' => br_f (by decide) ⟨hW.2.1.trans hW'.2.1.symm, ?_⟩)))))))
        exact ⟨w, r, n, q, kd, se, gw, st, rk, re, rw, rg, pa, pb, t, (by first | exact e2 | rfl), (by first | exact e3 | rfl), (by first | exact e4 | rfl), (by first | exact e5 | rfl), (by first | exact m0 | rfl), (by first | exact m1 | rfl), (by first | exact m2 | rfl), (by first | exact m3 | rfl), (by first | exact c1 | rfl), (by first | exact c7 | rfl), hT, hT', hR, hR', hP, hP', hB, hC, hD, hE0, hE1, hE2, hE3, hE4, hF, Or.inr ⟨rfl, rfl, hW⟩, hH⟩
theorem op19 {N : Nat} (hN : 8000 < N) : zop19 N Inv := by
  intro vi fa wi ga x1 hI
  obtain ⟨w, r, n, q, kd, se, gw, st, rk, re, rw, rg, pa, pb, t, e2, e3, e4, e5, m0, m1, m2, m3, c1, c7, hT, hT', hR, hR', hP, hP', hB, hC, hD, hE0, hE1, hE2, hE3, hE4, hF, hG, hH⟩ := hI
  obtain ⟨hK, hD6, hg⟩ := id hT
  obtain ⟨hK', hD6', hg'⟩ := id hT'
  have hw6 := hK.1
  have hn := hR.1
  have hbl := bk_le (rg := rg) n
  have gg : ∀ v, v < w → fa 3 v = nI (gw v) ∧ gw v ≤ 9 := fun v hv => ⟨(hg v hv).1, (hg v hv).2.1⟩
  have gg' : ∀ v, v < w → ga 3 v = nI (gw v) ∧ gw v ≤ 9 := fun v hv => ⟨(hg' v hv).1, (hg' v hv).2.1⟩
  rw [e2, e3, e4, m0, m1, m2]
  by_cases h0 : 0 ≤ x1
  · obtain ⟨i, hi, rfl⟩ := nI_of (Int32.not_lt.mpr h0)
    refine br_t h0 ?_
    rcases (show (bk rg n < 1 ∨ 4 < bk rg n) ∨ (1 ≤ bk rg n ∧ bk rg n ≤ 4) by omega) with h | ⟨b1, b4⟩
    · exact isw_no (by omega) hR hw6 h (br_t rfl (ref_X r3 (br_t h0 (blanks_M (by omega) hR' hw6 (br_no h (by omega) (no_M r3 ⟨rfl, w, r, n, q, kd, se, gw, st, rk, re, rw, rg, pa, pb, t, (by first | exact e2 | rfl), (by first | exact e3 | rfl), (by first | exact e4 | rfl), (by first | exact e5 | rfl), (by first | exact m0 | rfl), (by first | exact m1 | rfl), (by first | exact m2 | rfl), (by first | exact m3 | rfl), (by first | exact c1 | rfl), (by first | exact c7 | rfl), hT, hT', hR, hR', hP, hP', RF_up hB r3, hC, hD, hE0, hE1, hE2, hE3, hE4, hF, hG, hH⟩))))))
    · refine isw_yes (by omega) hR hw6 b1 b4 (br_f (by decide) (worn_X hN hK hD6 gg hn b1 b4 (fun i hi => (hR.2.2 i hi).1) (fun i hi => (hR.2.2 i hi).2) hG (fun many best bestFill seen whole holes fill hW => ?_)))
      have mm : ∀ {Φ : Int32 → Int32 → Int32 → (Nat → Int32) → (Nat → Int32) → (Nat → Int32) → (Nat → Int32) → (Nat → Int32) → Prop}, (∀ fit most trial filled mayBe best', WN kd se gw rk re rw w r n rg (w ^ bk rg n) fit most best' mayBe → fit = many → ((fit ≤ 0 → Φ (-9) fit most (ga 0) trial filled mayBe best') ∧ (¬ fit ≤ 0 → (nI (bk rg n) ≤ nI i → Φ (-9) fit most (ga 0) trial filled mayBe best') ∧ (¬ nI (bk rg n) ≤ nI i → vp_in (nI i) 4 ∧ Φ (best' (Int32.toNatClampNeg (nI i))) fit most (ga 0) trial filled mayBe best')))) → wp_X12_likeliest N (nI i) (nI w) (nI r) (nI n) (wi 11) (wi 12) (ga 0) (ga 1) (ga 2) (ga 3) (ga 5) (ga 6) (ga 7) (ga 8) (ga 17) (ga 18) (ga 19) (ga 20) Φ := fun k => br_t h0 (blanks_M (by omega) hR' hw6 (br_yes b1 b4 (fill_M hN hK' hD6' gg' b1 b4 hR' (fun fit most trial filled mayBe best' hW' => k fit most trial filled mayBe best' hW' (hW'.1.trans hW.1.symm)))))
      refine br_c (fun c => ?_) (fun c => br_c (fun d => ?_) (fun d => ?_))
      · refine mm (fun fit most trial filled mayBe best' hW' ef => ?_)
        subst ef
        exact br_t c ⟨rfl, w, r, n, q, kd, se, gw, st, rk, re, rw, rg, pa, pb, t, (by first | exact e2 | rfl), (by first | exact e3 | rfl), (by first | exact e4 | rfl), (by first | exact e5 | rfl), (by first | exact m0 | rfl), (by first | exact m1 | rfl), (by first | exact m2 | rfl), (by first | exact m3 | rfl), (by first | exact c1 | rfl), (by first | exact c7 | rfl), hT, hT', hR, hR', hP, hP', hB, hC, hD, hE0, hE1, hE2, hE3, hE4, hF, Or.inr ⟨rfl, rfl, hW⟩, hH⟩
      · refine mm (fun fit most trial filled mayBe best' hW' ef => ?_)
        subst ef
        exact br_f c (br_t d ⟨rfl, w, r, n, q, kd, se, gw, st, rk, re, rw, rg, pa, pb, t, (by first | exact e2 | rfl), (by first | exact e3 | rfl), (by first | exact e4 | rfl), (by first | exact e5 | rfl), (by first | exact m0 | rfl), (by first | exact m1 | rfl), (by first | exact m2 | rfl), (by first | exact m3 | rfl), (by first | exact c1 | rfl), (by first | exact c7 | rfl), hT, hT', hR, hR', hP, hP', hB, hC, hD, hE0, hE1, hE2, hE3, hE4, hF, Or.inr ⟨rfl, rfl, hW⟩, hH⟩)
      · have hib : i < bk rg n := by
          rcases Nat.lt_or_ge i (bk rg n) with y | y
          · exact y
          · exact absurd (nI_le y hi) d
        have ci : (nI i).toNatClampNeg = i := nI_clamp hi
        refine ⟨in_nI (by omega) (by omega), mm (fun fit most trial filled mayBe best' hW' ef => ?_)⟩
        subst ef
        refine br_f c (br_f d ⟨in_nI (by omega) (by omega), ?_⟩)
        have hpos : 0 < cnt (okW kd se rk re rw w r n rg) (w ^ bk rg n) := by
          rcases Nat.eq_zero_or_pos (cnt (okW kd se rk re rw w r n rg) (w ^ bk rg n)) with y | y
          · have := hW.1
            rw [y] at this
            exact absurd (show fit ≤ 0 by rw [this]; decide) c
          · exact y
        have hs := wBest_some (pr := fun j => prW gw (itR w (bk rg n) j) (bk rg n)) _ hpos
        have q1 := hW.2.2.1 hs i hib
        have q2 := hW'.2.2.1 hs i hib
        rw [ci]
        exact ⟨q1.trans q2.symm, w, r, n, q, kd, se, gw, st, rk, re, rw, rg, pa, pb, t, (by first | exact e2 | rfl), (by first | exact e3 | rfl), (by first | exact e4 | rfl), (by first | exact e5 | rfl), (by first | exact m0 | rfl), (by first | exact m1 | rfl), (by first | exact m2 | rfl), (by first | exact m3 | rfl), (by first | exact c1 | rfl), (by first | exact c7 | rfl), hT, hT', hR, hR', hP, hP', hB, hC, hD, hE0, hE1, hE2, hE3, hE4, hF, Or.inr ⟨rfl, rfl, hW⟩, hH⟩
  · exact br_f h0 (ref_X r4 (br_f h0 (no_M r4 ⟨rfl, w, r, n, q, kd, se, gw, st, rk, re, rw, rg, pa, pb, t, (by first | exact e2 | rfl), (by first | exact e3 | rfl), (by first | exact e4 | rfl), (by first | exact e5 | rfl), (by first | exact m0 | rfl), (by first | exact m1 | rfl), (by first | exact m2 | rfl), (by first | exact m3 | rfl), (by first | exact c1 | rfl), (by first | exact c7 | rfl), hT, hT', hR, hR', hP, hP', RF_up hB r4, hC, hD, hE0, hE1, hE2, hE3, hE4, hF, hG, hH⟩)))
theorem op20 {N : Nat} (hN : 8000 < N) : zop20 N Inv := by
  intro vi fa wi ga x1 hI
  obtain ⟨w, r, n, q, kd, se, gw, st, rk, re, rw, rg, pa, pb, t, e2, e3, e4, e5, m0, m1, m2, m3, c1, c7, hT, hT', hR, hR', hP, hP', hB, hC, hD, hE0, hE1, hE2, hE3, hE4, hF, hG, hH⟩ := hI
  obtain ⟨hK, hD6, hg⟩ := id hT
  obtain ⟨hK', hD6', hg'⟩ := id hT'
  have hw6 := hK.1
  have hn := hR.1
  have hbl := bk_le (rg := rg) n
  have gg : ∀ v, v < w → fa 3 v = nI (gw v) ∧ gw v ≤ 9 := fun v hv => ⟨(hg v hv).1, (hg v hv).2.1⟩
  have gg' : ∀ v, v < w → ga 3 v = nI (gw v) ∧ gw v ≤ 9 := fun v hv => ⟨(hg' v hv).1, (hg' v hv).2.1⟩
  rw [e2, e3, e4, m0, m1, m2]
  rcases out x1 (n := n) (by omega) with h | ⟨j, hj, rfl⟩
  · exact hp_out h (br_t rfl (ref_X r1 (np_out h (br_f (by decide) (no_M r1 ⟨rfl, w, r, n, q, kd, se, gw, st, rk, re, rw, rg, pa, pb, t, (by first | exact e2 | rfl), (by first | exact e3 | rfl), (by first | exact e4 | rfl), (by first | exact e5 | rfl), (by first | exact m0 | rfl), (by first | exact m1 | rfl), (by first | exact m2 | rfl), (by first | exact m3 | rfl), (by first | exact c1 | rfl), (by first | exact c7 | rfl), hT, hT', hR, hR', hP, hP', RF_up hB r1, hC, hD, hE0, hE1, hE2, hE3, hE4, hF, hG, hH⟩)))))
  · refine hp_some hj (by omega) (br_f (by decide) ?_)
    have v12 : vp_in (nI j) 12 := in_nI (by omega) (by omega)
    have cj : (nI j).toNatClampNeg = j := nI_clamp (by omega)
    rcases (show (bk rg n < 1 ∨ 4 < bk rg n) ∨ (1 ≤ bk rg n ∧ bk rg n ≤ 4) by omega) with h | ⟨b1, b4⟩
    · exact isw_no (by omega) hR hw6 h (br_t rfl (ref_X r3 (np_some hj (by omega) (br_t rfl (blanks_M (by omega) hR' hw6 (br_no h (by omega) (no_M r3 ⟨rfl, w, r, n, q, kd, se, gw, st, rk, re, rw, rg, pa, pb, t, (by first | exact e2 | rfl), (by first | exact e3 | rfl), (by first | exact e4 | rfl), (by first | exact e5 | rfl), (by first | exact m0 | rfl), (by first | exact m1 | rfl), (by first | exact m2 | rfl), (by first | exact m3 | rfl), (by first | exact c1 | rfl), (by first | exact c7 | rfl), hT, hT', hR, hR', hP, hP', RF_up hB r3, hC, hD, hE0, hE1, hE2, hE3, hE4, hF, hG, hH⟩)))))))
    · refine isw_yes (by omega) hR hw6 b1 b4 (br_f (by decide) (worn_X hN hK hD6 gg hn b1 b4 (fun i hi => (hR.2.2 i hi).1) (fun i hi => (hR.2.2 i hi).2) hG (fun many best bestFill seen whole holes fill hW => ⟨v12, ?_⟩)))
      refine np_some hj (by omega) (br_t rfl (blanks_M (by omega) hR' hw6 (br_yes b1 b4 (fill_M hN hK' hD6' gg' b1 b4 hR' (fun fit most trial filled mayBe best' hW' => ⟨v12, ?_⟩)))))
      rw [cj]
      exact ⟨(hW.2.2.2 j hj).1.trans (hW'.2.2.2 j hj).1.symm, w, r, n, q, kd, se, gw, st, rk, re, rw, rg, pa, pb, t, (by first | exact e2 | rfl), (by first | exact e3 | rfl), (by first | exact e4 | rfl), (by first | exact e5 | rfl), (by first | exact m0 | rfl), (by first | exact m1 | rfl), (by first | exact m2 | rfl), (by first | exact m3 | rfl), (by first | exact c1 | rfl), (by first | exact c7 | rfl), hT, hT', hR, hR', hP, hP', hB, hC, hD, hE0, hE1, hE2, hE3, hE4, hF, Or.inr ⟨rfl, rfl, hW⟩, hH⟩
