theorem fill_J {N n1 : Nat} {x : Int32} {Φ : (Nat → Int32) → Prop} {F : Nat → Int32} (hN : 100 < N) (hn1 : n1 ≤ 90) (h : ∀ F', (∀ i, i < n1 → F' i = x) → Φ F') : wp_J7_fill_53178 N n1 x F Φ := by
  unfold wp_J7_fill_53178
  have L : ∀ (l i fuel : Nat) (F : Nat → Int32), i + l = n1 → l < fuel → (∀ k, k < i → F k = x) → lp_J7_fill_53178_5 N n1 x (Int32.ofNat n1) Φ fuel (nI i) F := by
    intro l
    induction l with
    | zero =>
      intro i fuel F hi hf hF
      obtain ⟨z, rfl⟩ : ∃ z, fuel = z + 1 := ⟨fuel - 1, by omega⟩
      rw [lp_J7_fill_53178_5]
      exact br_t (nI_le (a := n1) (b := i) (by omega) (by omega)) (h F (fun k hk => hF k (by omega)))
    | succ l ih =>
      intro i fuel F hi hf hF
      obtain ⟨z, rfl⟩ : ∃ z, fuel = z + 1 := ⟨fuel - 1, by omega⟩
      rw [lp_J7_fill_53178_5, nI_1, nI_clamp (show i < 2 ^ 31 by omega)]
      refine br_f (nI_ge (a := i) (b := n1) (by omega) (by omega)) ⟨in_nI (by omega) (by omega), ih (i + 1) z _ (by omega) (by omega) (fun k hk => ?_)⟩
      by_cases e : k = i
      · subst e; exact pk_us
      · rw [pk_un e]; exact hF k (by omega)
  exact L n1 0 N F (by omega) (by omega) (fun k hk => by omega)
theorem pow6 {w n : Nat} (hw : w ≤ 6) (hn : n ≤ 5) : w ^ n ≤ 7776 := calc
  w ^ n ≤ 6 ^ n := Nat.pow_le_pow_left hw n
  _ ≤ 6 ^ 5 := Nat.pow_le_pow_right (by omega) hn
theorem RW_sm {w n n1 : Nat} {f : Nat → Nat} {F : Nat → Int32} (hn : n ≤ n1) (hn1 : n1 ≤ 90) (hR : RN n f F) (hd : ∀ i, i < n → f i < w) : RW w n n1 (sm f) F := ⟨hn, hn1, fun i hi => ⟨hR i hi, fun v hv => by cases hv; exact hd i hi⟩⟩
theorem ringM_le {kd se : Nat → Nat} {w by_ n j n1 : Nat} {kinds sets F : Nat → Int32} (hK : KS w kd se kinds sets) (hw0 : 0 < w) (hn : n ≤ n1) (hn1 : n1 ≤ 90) (hR : RN n (itR w n j) F) : ringM kd se w by_ n j ≤ 16 := allM_le hK (RW_sm hn hn1 hR (fun i hi => it_dig hw0 j i hi))
theorem lk_loop {N w n by_ : Nat} {kd se : Nat → Nat} {kinds sets : Nat → Int32} {Φ : Int32 → (Nat → Int32) → (Nat → Int32) → (Nat → Int32) → (Nat → Int32) → (Nat → Int32) → Prop} (hN : 8000 < N) (hK : KS w kd se kinds sets) (hby : by_ ≤ 4) (hn : 1 ≤ n) (hn5 : n ≤ 5)
    (hΦ : ∀ said fewest firsts counts without row, SV kd se w by_ n (w ^ n) said fewest firsts counts without → Φ said fewest firsts counts without row) :
    ∀ (l j fuel : Nat) (said : Int32) (fewest firsts counts without row : Nat → Int32), j + l = w ^ n → l < fuel → RN n (itR w n j) row → SV kd se w by_ n j said fewest firsts counts without → lp_X6_lookAtAll_17 N (nI n) (nI by_) (nI w) kinds sets Φ fuel (nI l) said fewest firsts counts without row := by
  have hw := hK.1
  have hp := pow6 hw hn5
  intro l
  induction l with
  | zero =>
    intro j fuel said fewest firsts counts without row hj hf hR hS
    obtain ⟨z, rfl⟩ : ∃ z, fuel = z + 1 := ⟨fuel - 1, by omega⟩
    rw [lp_X6_lookAtAll_17]
    refine br_t (by decide) (hΦ _ _ _ _ _ _ ?_)
    rw [show w ^ n = j by omega]; exact hS
  | succ l ih =>
    intro j fuel said fewest firsts counts without row hj hf hR hS
    obtain ⟨z, rfl⟩ : ∃ z, fuel = z + 1 := ⟨fuel - 1, by omega⟩
    have hw0 : 0 < w := by
      rcases Nat.eq_zero_or_pos w with e | e
      · subst e; rw [Nat.zero_pow (by omega)] at hj; omega
      · exact e
    have hd : ∀ i, i < n → itR w n j i < w := fun i hi => it_dig hw0 j i hi
    have hle : ringM kd se w by_ n j ≤ 16 := ringM_le hK hw0 (n1 := 5) hn5 (by omega) hR
    rw [lp_X6_lookAtAll_17, pk_m1]
    refine br_f (nI_nle (by omega) (by omega)) (ft_X (by omega) (by omega) hn5 (by omega) hR (fun i hi => by have := hd i hi; omega) ?_)
    cases e : ft (itR w n j) n with
    | false =>
      have hg : good kd se w by_ n j = false := by unfold good; rw [e]; rfl
      exact br_t rfl (step_X (by omega) hn5 (by omega) hw hR hd (fun F' hF' => ih (j + 1) z _ _ _ _ _ _ (by omega) (by omega) hF' (SV_skip hn hg hS)))
    | true =>
      refine br_f (by decide) (one_X (by omega) hK (RW_sm hn5 (by omega) hR hd) hby ?_)
      show (nI (ringM kd se w by_ n j) = 16 → _) ∧ _
      by_cases h16 : ringM kd se w by_ n j = 16
      · have hg : good kd se w by_ n j = false := by unfold good; rw [e, h16]; rfl
        exact br_t (by rw [h16]; rfl) (step_X (by omega) hn5 (by omega) hw hR hd (fun F' hF' => ih (j + 1) z _ _ _ _ _ _ (by omega) (by omega) hF' (SV_skip hn hg hS)))
      · have hg : good kd se w by_ n j = true := by unfold good; rw [e]; simp [h16]
        refine br_f (fun y => h16 ((nI_eq (b := 16) (by omega) (by omega)).mp y)) ?_
        exact note_X (by omega) hw hw0 hn hn5 hle hg hR hS (fun said fewest firsts counts without hS' => step_X (by omega) hn5 (by omega) hw hR hd (fun F' hF' => ih (j + 1) z _ _ _ _ _ _ (by omega) (by omega) hF' hS'))
theorem SV_0 {kd se : Nat → Nat} {w by_ : Nat} {fewest firsts counts without : Nat → Int32} (hw : w ≤ 6) (h1 : ∀ i, i < 16 → fewest i = 0) (h2 : ∀ i, i < 6 → counts i = 0) (h3 : ∀ i, i < 6 → without i = 0) : SV kd se w by_ 1 0 0 fewest firsts counts without := by
  have no : ∀ m i, ¬ Seen w 1 0 m i := by
    rintro m i ⟨a, b | b⟩ <;> omega
  refine ⟨fun m hm h5 => ?_, ⟨0, rfl, by omega, fun b => ?_⟩, fun v hv => ⟨0, h3 v (by omega), by omega, fun b => ?_⟩, fun s hs => Or.inl ⟨h1 s hs, fun m i _ h => absurd h (no m i)⟩⟩
  · rw [h2 m (by omega)]
    rw [if_neg (by omega)]
    split <;> rfl
  · simp only [Nat.zero_testBit, Bool.false_eq_true, false_iff]
    rintro ⟨m, i, _, h, _⟩; exact no m i h
  · simp only [Nat.zero_testBit, Bool.false_eq_true, false_iff]
    rintro ⟨m, i, _, h, _⟩; exact no m i h
/-- the survey answers what it must, found now or before -/
theorem look_X {N w by_ : Nat} {kd se : Nat → Nat} {kinds sets : Nat → Int32} {known said : Int32} {fewest firsts counts without row : Nat → Int32} {Φ : Int32 → Int32 → (Nat → Int32) → (Nat → Int32) → (Nat → Int32) → (Nat → Int32) → (Nat → Int32) → Prop} (hN : 8000 < N) (hK : KS w kd se kinds sets) (hby : by_ ≤ 4)
    (hk : known = 0 ∨ (known = 1 ∧ SV kd se w by_ 6 0 said fewest firsts counts without)) (hΦ : ∀ said fewest firsts counts without row, SV kd se w by_ 6 0 said fewest firsts counts without → Φ 1 said fewest firsts counts without row) : wp_X6_look N (nI by_) known said fewest firsts counts without row (nI w) kinds sets Φ := by
  have hw := hK.1
  unfold wp_X6_look
  rcases hk with rfl | ⟨rfl, hS⟩
  · refine br_t rfl (fill_J (by omega) (by omega) (fun F1 h1 => fill_J (by omega) (by omega) (fun F2 h2 => fill_J (by omega) (by omega) (fun F3 h3 => ?_))))
    have L : ∀ (l n fuel : Nat) (said : Int32) (fewest firsts counts without row : Nat → Int32), n + l = 6 → l < fuel → 1 ≤ n → SV kd se w by_ n 0 said fewest firsts counts without → lp_X6_look_39 N (nI by_) 0 (nI w) kinds sets Φ fuel (nI n) said fewest firsts counts without row := by
      intro l
      induction l with
      | zero =>
        intro n fuel said fewest firsts counts without row hn hf h1 hS
        obtain ⟨z, rfl⟩ : ∃ z, fuel = z + 1 := ⟨fuel - 1, by omega⟩
        rw [lp_X6_look_39]
        obtain rfl : n = 6 := by omega
        exact br_t (by decide) (hΦ _ _ _ _ _ _ hS)
      | succ l ih =>
        intro n fuel said fewest firsts counts without row hn hf h1 hS
        obtain ⟨z, rfl⟩ : ∃ z, fuel = z + 1 := ⟨fuel - 1, by omega⟩
        rw [lp_X6_look_39, nI_1]
        refine br_f (nI_nlt (a := 5) (b := n) (by omega) (by omega)) ?_
        unfold wp_X6_lookAtAll
        refine begin_X (by omega) (by omega) (by omega) (fun F' hF' => many_X (by omega) (by omega) ?_)
        have := pow6 hw (show n ≤ 5 by omega)
        exact lk_loop hN hK hby h1 (by omega) (fun said fewest firsts counts without row hS' => ih (n + 1) z _ _ _ _ _ _ (by omega) (by omega) (by omega) (SV_next h1 hS')) (w ^ n) 0 N _ _ _ _ _ _ (by omega) (by omega) hF' hS
    exact L 5 1 N 0 F1 firsts F2 F3 row (by omega) (by omega) (by omega) (SV_0 hw h1 h2 h3)
  · exact br_f (by decide) (hΦ _ _ _ _ _ _ hS)
/-- a ring that means a SET has a first one among its turns, no later and of the same words -/
theorem good_rot {kd se : Nat → Nat} {w by_ n i b : Nat} (hw0 : 0 < w) (hn : 0 < n) (hi : i < w ^ n) (hm : ringM kd se w by_ n i = b) (hb : b ≠ 16) : ∃ i', i' ≤ i ∧ good kd se w by_ n i' = true ∧ ringM kd se w by_ n i' = b ∧ ∀ v, hasNo w n i v → hasNo w n i' v := by
  have hd : ∀ k, k < n → itR w n i k < w := fun k hk => it_dig hw0 i k hk
  obtain ⟨c, hc, h1, h2⟩ := ft_some hn hd
  have hd' : ∀ k, k < n → rot n c (itR w n i) k < w := fun k _ => hd _ (Nat.mod_lt _ hn)
  have hr := row_it (rot n c (itR w n i)) hw0 hd'
  rw [it_val hw0 i hi] at h2
  have e1 : ringM kd se w by_ n (val w n (rot n c (itR w n i))) = b := by
    unfold ringM at hm ⊢
    rw [allM_congr (g := sm (rot n c (itR w n i))) (fun k hk => by show some _ = some _; rw [hr k hk])]
    exact (allM_rot hn hc hb).mpr hm
  refine ⟨_, h2, ?_, e1, fun v hv k hk => ?_⟩
  · unfold good
    rw [e1, ft_congr hn (fun k hk => (hr k hk).symm), h1]
    simp [hb]
  · rw [← hr k hk]
    exact hv _ (Nat.mod_lt _ hn)
