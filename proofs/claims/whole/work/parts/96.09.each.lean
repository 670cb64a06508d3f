/-! EACH: the class's search and the reference's -/
def ringOK (kd se rk re rw : Nat → Nat) (w r n i : Nat) : Bool := (against kd se rk re rw (sm (itR w n i)) n r).isNone
theorem ansO_none (o : Option Nat) (ho : ∀ i, o = some i → i < 100) : ansO o = -9 ↔ o.isNone = true := by
  cases o with
  | none => exact ⟨fun _ => rfl, fun _ => rfl⟩
  | some i =>
    refine ⟨fun h => ?_, fun h => by simp at h⟩
    have hi := ho i rfl
    have h1 := congrArg Int32.toInt h
    rw [show ansO (some i) = nI i from rfl, nI_toInt (by omega)] at h1
    have h2 : (-9 : Int32).toInt = -9 := by decide
    rw [h2] at h1
    omega
theorem ag_lt {f rw : Nat → Nat} : ∀ l i k, ag f rw l i = some k → k < i + l := by
  intro l
  induction l with
  | zero => intro i k h; cases h
  | succ l ih =>
    intro i k h
    rw [ag] at h
    split at h
    · have := ih _ _ h; omega
    · cases h; omega
theorem against_lt {kd se rk re rw : Nat → Nat} {row : Nat → Option Nat} {n r : Nat} (hr : r ≤ 6) : ∀ i, against kd se rk re rw row n r = some i → i < 100 := fun i h => by
  have := ag_lt _ _ _ h
  omega
/-- the first ring that reads to all roads their wishes, if there is one: what a search must have found -/
def EA (kd se rk re rw : Nat → Nat) (w r : Nat) (places : Int32) (ring : Nat → Int32) : Prop :=
  (places = 0 ∧ ∀ m i, Seen w 6 0 m i → ringOK kd se rk re rw w r m i = false) ∨
  (∃ n i, 1 ≤ n ∧ n ≤ 5 ∧ i < w ^ n ∧ ringOK kd se rk re rw w r n i = true ∧ (∀ m' i', Seen w n i m' i' → ringOK kd se rk re rw w r m' i' = false) ∧ places = nI n ∧ RN n (itR w n i) ring)
theorem fr_X {N w n r : Nat} {kd se rk re rw : Nat → Nat} {kinds sets readers eighths wishes : Nat → Int32} {Φ : Int32 → (Nat → Int32) → Prop} (hN : 8000 < N) (hK : KS w kd se kinds sets) (hD : RD r rk re rw readers eighths wishes) (hn : 1 ≤ n) (hn5 : n ≤ 5)
    (hno : (∀ m i, Seen w n (w ^ n) m i → ringOK kd se rk re rw w r m i = false) → ∀ F, Φ 0 F) (hyes : ∀ i F, i < w ^ n → ringOK kd se rk re rw w r n i = true → (∀ m' i', Seen w n i m' i' → ringOK kd se rk re rw w r m' i' = false) → RN n (itR w n i) F → Φ 1 F) :
    ∀ (l j fuel : Nat) (F : Nat → Int32), j + l = w ^ n → l < fuel → RN n (itR w n j) F → (∀ m' i', Seen w n j m' i' → ringOK kd se rk re rw w r m' i' = false) → lp_X1_findsRing_17 N (nI n) (nI w) (nI r) kinds sets readers eighths wishes Φ fuel (nI l) F := by
  have hw := hK.1
  have hp := pow6 hw hn5
  intro l
  induction l with
  | zero =>
    intro j fuel F hj hf hR hS
    obtain ⟨z, rfl⟩ : ∃ z, fuel = z + 1 := ⟨fuel - 1, by omega⟩
    rw [lp_X1_findsRing_17]
    refine br_t (by decide) (hno ?_ F)
    rw [show w ^ n = j by omega]; exact hS
  | succ l ih =>
    intro j fuel F hj hf hR hS
    obtain ⟨z, rfl⟩ : ∃ z, fuel = z + 1 := ⟨fuel - 1, by omega⟩
    have hw0 : 0 < w := by
      rcases Nat.eq_zero_or_pos w with e | e
      · subst e; rw [Nat.zero_pow (by omega)] at hj; omega
      · exact e
    have hd : ∀ i, i < n → itR w n j i < w := fun i hi => it_dig hw0 j i hi
    rw [lp_X1_findsRing_17, pk_m1]
    refine br_f (nI_nle (by omega) (by omega)) (fa_X (by omega) hK (RW_sm hn5 (by omega) hR hd) hD ?_)
    have hiff := ansO_none _ (against_lt (kd := kd) (se := se) (rk := rk) (re := re) (rw := rw) (row := sm (itR w n j)) (n := n) hD.1)
    cases e : ringOK kd se rk re rw w r n j with
    | true => exact br_t (hiff.mpr e) (hyes j F (by omega) e hS hR)
    | false =>
      refine br_f (fun y => by rw [show ringOK kd se rk re rw w r n j = true from hiff.mp y] at e; cases e) (step_X (by omega) hn5 (by omega) hw hR hd (fun F' hF' => ih (j + 1) z F' (by omega) (by omega) hF' (fun m i h => ?_)))
      rcases (seen_step hn).mp h with h | ⟨rfl, rfl⟩
      · exact hS m i h
      · exact e
theorem each_X {N w r : Nat} {kd se rk re rw : Nat → Nat} {kinds sets readers eighths wishes : Nat → Int32} {known places : Int32} {ring : Nat → Int32} {Φ : Int32 → Int32 → (Nat → Int32) → Prop} (hN : 8000 < N) (hK : KS w kd se kinds sets) (hD : RD r rk re rw readers eighths wishes)
    (hk : known = 0 ∨ (known = 1 ∧ EA kd se rk re rw w r places ring)) (hΦ : ∀ places ring, EA kd se rk re rw w r places ring → Φ 1 places ring) : wp_X1_seek N known places ring (nI w) (nI r) kinds sets readers eighths wishes Φ := by
  have hw := hK.1
  unfold wp_X1_seek
  rcases hk with rfl | ⟨rfl, hE⟩
  · refine br_t rfl ?_
    have L : ∀ (l n fuel : Nat) (F : Nat → Int32), n + l = 6 → l < fuel → 1 ≤ n → (∀ m' i', Seen w n 0 m' i' → ringOK kd se rk re rw w r m' i' = false) → lp_X1_seek_15 N 0 (nI w) (nI r) kinds sets readers eighths wishes Φ fuel (nI n) 0 F := by
      intro l
      induction l with
      | zero =>
        intro n fuel F hn hf h1 hS
        obtain ⟨z, rfl⟩ : ∃ z, fuel = z + 1 := ⟨fuel - 1, by omega⟩
        rw [lp_X1_seek_15]
        obtain rfl : n = 6 := by omega
        exact br_t (by decide) (hΦ _ _ (Or.inl ⟨rfl, hS⟩))
      | succ l ih =>
        intro n fuel F hn hf h1 hS
        obtain ⟨z, rfl⟩ : ∃ z, fuel = z + 1 := ⟨fuel - 1, by omega⟩
        rw [lp_X1_seek_15, nI_1]
        refine br_f (nI_nlt (a := 5) (b := n) (by omega) (by omega)) (br_t rfl ?_)
        unfold wp_X1_findsRing
        have hp6 := pow6 hw (show n ≤ 5 by omega)
        refine begin_X (by omega) (by omega) (by omega) (fun F' hF' => many_X (by omega) (by omega) ?_)
        refine fr_X hN hK hD h1 (by omega) (fun hall F2 => ?_) (fun i F2 hi e hb hR => ?_) (w ^ n) 0 N F' (by omega) (by omega) hF' hS
        · exact br_t rfl (ih (n + 1) z F2 (by omega) (by omega) (by omega) (fun m i h => hall m i ((seen_next h1).mp h)))
        · refine br_f (by decide) ?_
          obtain ⟨z, rfl⟩ : ∃ y, z = y + 1 := ⟨z - 1, by omega⟩
          have hE : EA kd se rk re rw w r (nI n) F2 := Or.inr ⟨n, i, h1, by omega, hi, e, hb, rfl, hR⟩
          rw [lp_X1_seek_15]
          exact ⟨fun _ => hΦ _ _ hE, fun _ => br_f (nI_ne0 (by omega) (by omega)) (hΦ _ _ hE)⟩
    exact L 5 1 N ring (by omega) (by omega) (by omega) (fun m i h => absurd h seen_1)
  · exact br_f (by decide) (hΦ _ _ hE)
theorem le_in {N w n r : Nat} {kd se rk re rw : Nat → Nat} {kinds sets readers eighths wishes : Nat → Int32} {Φ : Int32 → (Nat → Int32) → Prop} {k : (Nat → Int32) → Prop} (hN : 8000 < N) (hK : KS w kd se kinds sets) (hD : RD r rk re rw readers eighths wishes) (hw0 : 0 < w) (hn : 1 ≤ n) (hn5 : n ≤ 5)
    (hk : (∀ m i, Seen w n (w ^ n) m i → ringOK kd se rk re rw w r m i = false) → ∀ F, k F) (hyes : ∀ i F, i < w ^ n → ringOK kd se rk re rw w r n i = true → (∀ m' i', Seen w n i m' i' → ringOK kd se rk re rw w r m' i' = false) → RN n (itR w n i) F → Φ (nI n) F) :
    ∀ (l j fuel : Nat) (F : Nat → Int32), j + l + 1 = w ^ n → l < fuel → RN n (itR w n j) F → (∀ m' i', Seen w n j m' i' → ringOK kd se rk re rw w r m' i' = false) → lp_X12_leastEach_20 N (nI n) (nI w) (nI r) kinds sets readers eighths wishes Φ k fuel F := by
  have hw := hK.1
  intro l
  induction l with
  | zero =>
    intro j fuel F hj hf hR hS
    obtain ⟨z, rfl⟩ : ∃ z, fuel = z + 1 := ⟨fuel - 1, by omega⟩
    have hd : ∀ i, i < n → itR w n j i < w := fun i hi => it_dig hw0 j i hi
    rw [lp_X12_leastEach_20]
    refine aw_M (by omega) hK (RW_sm (by omega) (by omega) hR hd) hD ?_
    show (bI (ringOK kd se rk re rw w r n j) = 0 → _) ∧ (¬ bI (ringOK kd se rk re rw w r n j) = 0 → _)
    cases e : ringOK kd se rk re rw w r n j with
    | true => exact br_f (by decide) (hyes j F (by omega) e hS hR)
    | false =>
      refine br_t rfl (next_M (by omega) (by omega) hw hR hd (fun F' hF' => ?_))
      rw [it_more hw0 (by omega), decide_eq_false (by omega)]
      refine br_t rfl (hk (fun m i h => ?_) F')
      rw [show w ^ n = j + 1 by omega] at h
      rcases (seen_step hn).mp h with h | ⟨rfl, rfl⟩
      · exact hS m i h
      · exact e
  | succ l ih =>
    intro j fuel F hj hf hR hS
    obtain ⟨z, rfl⟩ : ∃ z, fuel = z + 1 := ⟨fuel - 1, by omega⟩
    have hd : ∀ i, i < n → itR w n j i < w := fun i hi => it_dig hw0 j i hi
    rw [lp_X12_leastEach_20]
    refine aw_M (by omega) hK (RW_sm (by omega) (by omega) hR hd) hD ?_
    show (bI (ringOK kd se rk re rw w r n j) = 0 → _) ∧ (¬ bI (ringOK kd se rk re rw w r n j) = 0 → _)
    cases e : ringOK kd se rk re rw w r n j with
    | true => exact br_f (by decide) (hyes j F (by omega) e hS hR)
    | false =>
      refine br_t rfl (next_M (by omega) (by omega) hw hR hd (fun F' hF' => ?_))
      rw [it_more hw0 (by omega), decide_eq_true (by omega)]
      refine br_f (by decide) (ih (j + 1) z F' (by omega) (by omega) hF' (fun m i h => ?_))
      rcases (seen_step hn).mp h with h | ⟨rfl, rfl⟩
      · exact hS m i h
      · exact e
theorem leastEach_M {N w r : Nat} {kd se rk re rw : Nat → Nat} {kinds sets readers eighths wishes F0 : Nat → Int32} {Φ : Int32 → (Nat → Int32) → Prop} (hN : 8000 < N) (hK : KS w kd se kinds sets) (hD : RD r rk re rw readers eighths wishes)
    (hno : (∀ m i, Seen w 6 0 m i → ringOK kd se rk re rw w r m i = false) → ∀ F, Φ (-9) F) (hyes : ∀ n i F, 1 ≤ n → n ≤ 5 → i < w ^ n → ringOK kd se rk re rw w r n i = true → (∀ m' i', Seen w n i m' i' → ringOK kd se rk re rw w r m' i' = false) → RN n (itR w n i) F → Φ (nI n) F) : wp_X12_leastEach N (nI w) (nI r) kinds sets readers eighths wishes F0 Φ := by
  have hw := hK.1
  unfold wp_X12_leastEach
  have L : ∀ (l n fuel : Nat) (F : Nat → Int32), n + l = 6 → l < fuel → 1 ≤ n → (∀ m' i', Seen w n 0 m' i' → ringOK kd se rk re rw w r m' i' = false) → lp_X12_leastEach_2 N (nI w) (nI r) kinds sets readers eighths wishes Φ fuel (nI n) F := by
    intro l
    induction l with
    | zero =>
      intro n fuel F hn hf h1 hS
      obtain ⟨z, rfl⟩ : ∃ z, fuel = z + 1 := ⟨fuel - 1, by omega⟩
      rw [lp_X12_leastEach_2]
      obtain rfl : n = 6 := by omega
      exact br_t (by decide) (hno hS F)
    | succ l ih =>
      intro n fuel F hn hf h1 hS
      obtain ⟨z, rfl⟩ : ∃ z, fuel = z + 1 := ⟨fuel - 1, by omega⟩
      rw [lp_X12_leastEach_2]
      refine br_f (nI_ge (a := n) (b := 6) (by omega) (by omega)) ?_
      rcases Nat.eq_zero_or_pos w with e | hw0
      · subst e
        refine br_t (by decide) (hno (fun m i h => ?_) F)
        obtain ⟨a, b | b⟩ := h
        · rw [Nat.zero_pow (by omega)] at b; omega
        · omega
      · refine br_f (nI_nle hw0 (by omega)) (begin_M (by omega) (by omega) (fun F' hF' => ?_))
        have hp := pow_pos' (n := n) hw0
        have hp6 := pow6 hw (show n ≤ 5 by omega)
        refine le_in hN hK hD hw0 h1 (by omega) (fun hall F2 => ?_) (fun i F2 hi e hb hR => hyes n i F2 h1 (by omega) hi e hb hR) (w ^ n - 1) 0 N F' (by omega) (by omega) hF' hS
        unfold ex_X12_leastEach_42
        rw [nI_1]
        exact ih (n + 1) z F2 (by omega) (by omega) (by omega) (fun m i h => hall m i ((seen_next h1).mp h))
  exact L 5 1 N F0 (by omega) (by omega) (by omega) (fun m i h => absurd h seen_1)
/-- two firsts in one order are one -/
theorem first_one {w n i m k : Nat} {P : Nat → Nat → Prop} (hn : 1 ≤ n) (hm : 1 ≤ m) (hi : i < w ^ n) (hk : k < w ^ m) (h1 : P n i) (h2 : P m k) (h3 : ∀ m' i', Seen w n i m' i' → ¬ P m' i') (h4 : ∀ m' i', Seen w m k m' i' → ¬ P m' i') : n = m ∧ i = k := by
  rcases Nat.lt_trichotomy n m with h | h | h
  · exact absurd h1 (h4 n i ⟨hn, Or.inl ⟨h, hi⟩⟩)
  · subst h
    rcases Nat.lt_trichotomy i k with h | h | h
    · exact absurd h1 (h4 n i ⟨hn, Or.inr ⟨rfl, h⟩⟩)
    · exact ⟨rfl, h⟩
    · exact absurd h2 (h3 n k ⟨hn, Or.inr ⟨rfl, h⟩⟩)
  · exact absurd h2 (h3 m k ⟨hm, Or.inl ⟨h, hk⟩⟩)
theorem seen_in {w n i m k : Nat} (hn5 : n ≤ 5) (hi : i < w ^ n) (h : Seen w n i m k) : Seen w 6 0 m k := by
  obtain ⟨a, b | b⟩ := h
  · exact ⟨a, Or.inl ⟨by omega, b.2⟩⟩
  · obtain ⟨rfl, b⟩ := b
    exact ⟨a, Or.inl ⟨by omega, by omega⟩⟩
