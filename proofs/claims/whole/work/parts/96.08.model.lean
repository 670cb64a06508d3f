/-! the reference goes through the rings -/
theorem least_in {N w by_ s n : Nat} {kd se : Nat → Nat} {kinds sets : Nat → Int32} {Φ : Int32 → (Nat → Int32) → Prop} {k : (Nat → Int32) → Prop} (hN : 8000 < N) (hK : KS w kd se kinds sets) (hw0 : 0 < w) (hby : by_ ≤ 4) (hs : s < 16) (hn : 1 ≤ n) (hn5 : n ≤ 5)
    (hk : (∀ m i, Seen w n (w ^ n) m i → ringM kd se w by_ m i ≠ s) → ∀ F, k F) (hyes : ∀ i F, i < w ^ n → ringM kd se w by_ n i = s → (∀ m' i', Seen w n i m' i' → ringM kd se w by_ m' i' ≠ s) → RN n (itR w n i) F → Φ (nI n) F) :
    ∀ (l j fuel : Nat) (F : Nat → Int32), j + l + 1 = w ^ n → l < fuel → RN n (itR w n j) F → (∀ m' i', Seen w n j m' i' → ringM kd se w by_ m' i' ≠ s) → lp_X12_least_20 N (nI s) (nI by_) (nI n) (nI w) kinds sets Φ k fuel F := by
  have hw := hK.1
  intro l
  induction l with
  | zero =>
    intro j fuel F hj hf hR hS
    obtain ⟨z, rfl⟩ : ∃ z, fuel = z + 1 := ⟨fuel - 1, by omega⟩
    have hd : ∀ i, i < n → itR w n j i < w := fun i hi => it_dig hw0 j i hi
    have hle : ringM kd se w by_ n j ≤ 16 := ringM_le hK hw0 (n1 := 6) (by omega) (by omega) hR
    rw [lp_X12_least_20]
    refine all_M (by omega) hK (RW_sm (by omega) (by omega) hR hd) hby ?_
    show (nI (ringM kd se w by_ n j) = nI s → _) ∧ _
    by_cases e : ringM kd se w by_ n j = s
    · exact br_t (by rw [e]) (hyes j F (by omega) e hS hR)
    · refine br_f (fun y => e ((nI_eq (by omega) (by omega)).mp y)) (next_M (by omega) (by omega) hw hR hd (fun F' hF' => ?_))
      rw [it_more hw0 (by omega), decide_eq_false (by omega)]
      refine br_t rfl (hk (fun m i h => ?_) F')
      rw [show w ^ n = j + 1 by omega] at h
      rcases (seen_step hn).mp h with h | ⟨rfl, rfl⟩
      · exact hS m i h
      · exact e
  | succ l ih =>
    intro j fuel F hj hf hR hS
    obtain ⟨z, rfl⟩ : ∃ z, fuel = z + 1 := ⟨fuel - 1, by omega⟩
    have hd : ∀ i, i < n → itR w n j i < w := fun i hi => it_dig hw0 j i hi
    have hle : ringM kd se w by_ n j ≤ 16 := ringM_le hK hw0 (n1 := 6) (by omega) (by omega) hR
    rw [lp_X12_least_20]
    refine all_M (by omega) hK (RW_sm (by omega) (by omega) hR hd) hby ?_
    show (nI (ringM kd se w by_ n j) = nI s → _) ∧ _
    by_cases e : ringM kd se w by_ n j = s
    · exact br_t (by rw [e]) (hyes j F (by omega) e hS hR)
    · refine br_f (fun y => e ((nI_eq (by omega) (by omega)).mp y)) (next_M (by omega) (by omega) hw hR hd (fun F' hF' => ?_))
      rw [it_more hw0 (by omega), decide_eq_true (by omega)]
      refine br_f (by decide) (ih (j + 1) z F' (by omega) (by omega) hF' (fun m i h => ?_))
      rcases (seen_step hn).mp h with h | ⟨rfl, rfl⟩
      · exact hS m i h
      · exact e
theorem pow_pos' {w n : Nat} (hw0 : 0 < w) : 0 < w ^ n := Nat.pow_pos hw0
theorem seen_1 {w m i : Nat} : ¬ Seen w 1 0 m i := by
  rintro ⟨a, b | b⟩ <;> omega
theorem least_M {N w by_ s : Nat} {kd se : Nat → Nat} {kinds sets F0 : Nat → Int32} {Φ : Int32 → (Nat → Int32) → Prop} (hN : 8000 < N) (hK : KS w kd se kinds sets) (hby : by_ ≤ 4) (hs : s < 16)
    (hno : (∀ m i, Seen w 6 0 m i → ringM kd se w by_ m i ≠ s) → ∀ F, Φ (-9) F) (hyes : ∀ n i F, 1 ≤ n → n ≤ 5 → i < w ^ n → ringM kd se w by_ n i = s → (∀ m' i', Seen w n i m' i' → ringM kd se w by_ m' i' ≠ s) → RN n (itR w n i) F → Φ (nI n) F) : wp_X12_least N (nI s) (nI by_) (nI w) kinds sets F0 Φ := by
  have hw := hK.1
  unfold wp_X12_least
  have L : ∀ (l n fuel : Nat) (F : Nat → Int32), n + l = 6 → l < fuel → 1 ≤ n → (∀ m' i', Seen w n 0 m' i' → ringM kd se w by_ m' i' ≠ s) → lp_X12_least_2 N (nI s) (nI by_) (nI w) kinds sets Φ fuel (nI n) F := by
    intro l
    induction l with
    | zero =>
      intro n fuel F hn hf h1 hS
      obtain ⟨z, rfl⟩ : ∃ z, fuel = z + 1 := ⟨fuel - 1, by omega⟩
      rw [lp_X12_least_2]
      obtain rfl : n = 6 := by omega
      exact br_t (by decide) (hno hS F)
    | succ l ih =>
      intro n fuel F hn hf h1 hS
      obtain ⟨z, rfl⟩ : ∃ z, fuel = z + 1 := ⟨fuel - 1, by omega⟩
      rw [lp_X12_least_2]
      refine br_f (nI_ge (a := n) (b := 6) (by omega) (by omega)) ?_
      rcases Nat.eq_zero_or_pos w with e | hw0
      · subst e
        refine br_t (by decide) (hno (fun m i h => ?_) F)
        obtain ⟨a, b | b⟩ := h
        · rw [Nat.zero_pow (by omega)] at b; omega
        · omega
      · refine br_f (nI_nle hw0 (by omega)) (begin_M (by omega) (by omega) (fun F' hF' => ?_))
        have hp := pow_pos' (n := n) hw0
        have hp6 := pow6 hw (show n ≤ 5 by omega)
        refine least_in hN hK hw0 hby hs h1 (by omega) (fun hall F2 => ?_) (fun i F2 hi e hb hR => hyes n i F2 h1 (by omega) hi e hb hR) (w ^ n - 1) 0 N F' (by omega) (by omega) hF' hS
        unfold ex_X12_least_44
        rw [nI_1]
        exact ih (n + 1) z F2 (by omega) (by omega) (by omega) (fun m i h => hall m i ((seen_next h1).mp h))
  exact L 5 1 N F0 (by omega) (by omega) (by omega) (fun m i h => absurd h seen_1)
theorem nI_p0 (c : Nat) : nI c + 0 = nI (c + 0) := nI_add c 0
/-- COUNT of the reference -/
theorem rings_M_loop {N w by_ n : Nat} {kd se : Nat → Nat} {kinds sets refused : Nat → Int32} {Φ : Int32 → (Nat → Int32) → (Nat → Int32) → Prop} (hN : 8000 < N) (hK : KS w kd se kinds sets) (hw0 : 0 < w) (hby : by_ ≤ 4) (hn : 1 ≤ n) (hn5 : n ≤ 5) (hΦ : ∀ F, Φ (nI (cnt (good kd se w by_ n) (w ^ n))) refused F) :
    ∀ (l j fuel : Nat) (F : Nat → Int32), j + l + 1 = w ^ n → l < fuel → RN n (itR w n j) F → lp_X12_rings_52 N (nI n) (nI by_) (nI w) refused kinds sets Φ fuel (nI (cnt (good kd se w by_ n) j)) F := by
  have hw := hK.1
  intro l
  induction l with
  | zero =>
    intro j fuel F hj hf hR
    obtain ⟨z, rfl⟩ : ∃ z, fuel = z + 1 := ⟨fuel - 1, by omega⟩
    have hd : ∀ i, i < n → itR w n j i < w := fun i hi => it_dig hw0 j i hi
    have hle : ringM kd se w by_ n j ≤ 16 := ringM_le hK hw0 (n1 := 6) (by omega) (by omega) hR
    have hE : ∀ F', Φ (nI (cnt (good kd se w by_ n) (j + 1))) refused F' := by rw [show j + 1 = w ^ n by omega]; exact hΦ
    have hmo := it_more (n := n) hw0 (show j < w ^ n by omega)
    rw [decide_eq_false (by omega)] at hmo
    rw [lp_X12_rings_52]
    refine ft_M (by omega) (by omega) (by omega) hR (fun i hi => by have := hd i hi; omega) ?_
    cases e : ft (itR w n j) n with
    | false =>
      have hg : good kd se w by_ n j = false := by unfold good; rw [e]; rfl
      refine br_t rfl (next_M (by omega) (by omega) hw hR hd (fun F' hF' => ?_))
      rw [hmo, nI_p0]
      refine br_t rfl ?_
      have := hE F'
      rw [cnt, hg] at this
      exact this
    | true =>
      refine br_f (by decide) (all_M (by omega) hK (RW_sm (by omega) (by omega) hR hd) hby ?_)
      show (nI (ringM kd se w by_ n j) = 16 → _) ∧ _
      by_cases h16 : ringM kd se w by_ n j = 16
      · have hg : good kd se w by_ n j = false := by unfold good; rw [e, h16]; rfl
        refine br_t (by rw [h16]; rfl) (next_M (by omega) (by omega) hw hR hd (fun F' hF' => ?_))
        rw [hmo, nI_p0]
        refine br_t rfl ?_
        have := hE F'
        rw [cnt, hg] at this
        exact this
      · have hg : good kd se w by_ n j = true := by unfold good; rw [e]; simp [h16]
        refine br_f (fun y => h16 ((nI_eq (b := 16) (by omega) (by omega)).mp y)) (next_M (by omega) (by omega) hw hR hd (fun F' hF' => ?_))
        rw [hmo]
        refine br_t rfl ?_
        have := hE F'
        rw [cnt, hg] at this
        rw [nI_1]
        exact this
  | succ l ih =>
    intro j fuel F hj hf hR
    obtain ⟨z, rfl⟩ : ∃ z, fuel = z + 1 := ⟨fuel - 1, by omega⟩
    have hd : ∀ i, i < n → itR w n j i < w := fun i hi => it_dig hw0 j i hi
    have hle : ringM kd se w by_ n j ≤ 16 := ringM_le hK hw0 (n1 := 6) (by omega) (by omega) hR
    have hmo := it_more (n := n) hw0 (show j < w ^ n by omega)
    rw [decide_eq_true (by omega)] at hmo
    have ih' := fun F' hF' => ih (j + 1) z F' (by omega) (by omega) hF'
    rw [lp_X12_rings_52]
    refine ft_M (by omega) (by omega) (by omega) hR (fun i hi => by have := hd i hi; omega) ?_
    cases e : ft (itR w n j) n with
    | false =>
      have hg : good kd se w by_ n j = false := by unfold good; rw [e]; rfl
      rw [cnt, hg] at ih'
      refine br_t rfl (next_M (by omega) (by omega) hw hR hd (fun F' hF' => ?_))
      rw [hmo, nI_p0]
      exact br_f (by decide) (ih' F' hF')
    | true =>
      refine br_f (by decide) (all_M (by omega) hK (RW_sm (by omega) (by omega) hR hd) hby ?_)
      show (nI (ringM kd se w by_ n j) = 16 → _) ∧ _
      by_cases h16 : ringM kd se w by_ n j = 16
      · have hg : good kd se w by_ n j = false := by unfold good; rw [e, h16]; rfl
        rw [cnt, hg] at ih'
        refine br_t (by rw [h16]; rfl) (next_M (by omega) (by omega) hw hR hd (fun F' hF' => ?_))
        rw [hmo, nI_p0]
        exact br_f (by decide) (ih' F' hF')
      · have hg : good kd se w by_ n j = true := by unfold good; rw [e]; simp [h16]
        rw [cnt, hg] at ih'
        refine br_f (fun y => h16 ((nI_eq (b := 16) (by omega) (by omega)).mp y)) (next_M (by omega) (by omega) hw hR hd (fun F' hF' => ?_))
        rw [hmo, nI_1]
        exact br_f (by decide) (ih' F' hF')
/-! SAYABLE of the reference, a word left out -/
def noW (w n i : Nat) (wo : Option Nat) : Prop := ∀ k, k < n → some (itR w n i k) ≠ wo
def wob (f : Nat → Nat) (wo : Option Nat) : Nat → Bool
  | 0 => true
  | k + 1 => wob f wo k && decide (some (f k) ≠ wo)
theorem wob_spec (f : Nat → Nat) (wo : Option Nat) : ∀ n, wob f wo n = true ↔ ∀ k, k < n → some (f k) ≠ wo := by
  intro n
  induction n with
  | zero => exact ⟨fun _ k hk => by omega, fun _ => rfl⟩
  | succ n ih =>
    rw [wob, Bool.and_eq_true, ih, decide_eq_true_iff]
    constructor
    · rintro ⟨a, b⟩ k hk
      rcases Nat.lt_or_ge k n with h | h
      · exact a k h
      · rw [show k = n by omega]; exact b
    · exact fun h => ⟨fun k hk => h k (by omega), h n (by omega)⟩
theorem nI_ow {a : Nat} {o : Option Nat} (ha : a < 2 ^ 31) (ho : ∀ v, o = some v → v < 2 ^ 31) : nI a = ow o ↔ some a = o := by
  cases o with
  | none => exact ⟨fun h => absurd h (nI_m1 ha), fun h => by cases h⟩
  | some v =>
    constructor
    · intro h; rw [(nI_eq ha (ho v rfl)).mp h]
    · intro h; cases h; rfl
theorem wob_M {N n : Nat} {wo : Option Nat} {F : Nat → Int32} {f : Nat → Nat} {Φ : Int32 → (Nat → Int32) → Prop} {k : Int32 → Prop} (hn : n ≤ 6) (hR : RN n f F) (hf : ∀ i, i < n → f i < 100) (ho : ∀ v, wo = some v → v < 100) (hk : k (bI (wob f wo n))) :
    ∀ (l i fuel : Nat), i + l = n → l < fuel → lp_X12_sets_30 N (ow wo) (nI n) F Φ k fuel (bI (wob f wo i)) (nI i) := by
  intro l
  induction l with
  | zero =>
    intro i fuel hi hfu
    obtain ⟨z, rfl⟩ : ∃ z, fuel = z + 1 := ⟨fuel - 1, by omega⟩
    rw [lp_X12_sets_30]
    refine br_t (nI_le (by omega) (by omega)) ?_
    rw [show i = n by omega]; exact hk
  | succ l ih =>
    intro i fuel hi hfu
    obtain ⟨z, rfl⟩ : ∃ z, fuel = z + 1 := ⟨fuel - 1, by omega⟩
    have ih' := ih (i + 1) z (by omega) (by omega)
    have h100 := hf i (by omega)
    rw [lp_X12_sets_30, nI_1, nI_clamp (show i < 2 ^ 31 by omega), hR i (by omega)]
    refine br_f (nI_ge (by omega) (by omega)) ?_
    rw [wob] at ih'
    have hno := nI_ow (a := f i) (o := wo) (by omega) (fun v hv => by have := ho v hv; omega)
    cases e : wob f wo i with
    | false => rw [e] at ih'; exact br_t rfl ih'
    | true =>
      rw [e] at ih'
      refine br_f (by decide) ⟨in_nI (by omega) (by omega), ?_⟩
      by_cases c : some (f i) = wo
      · rw [decide_eq_false (not_not_intro c)] at ih'
        exact br_t (hno.mpr c) ih'
      · rw [decide_eq_true c] at ih'
        exact br_f (fun y => c (hno.mp y)) ih'
def Bits (kd se : Nat → Nat) (w by_ n j : Nat) (wo : Option Nat) (sd : Nat) : Prop := sd < 2 ^ 16 ∧ ∀ b, sd.testBit b = true ↔ ∃ m i, Seen w n j m i ∧ ringM kd se w by_ m i = b ∧ b ≠ 16 ∧ noW w m i wo
theorem bits_skip {kd se : Nat → Nat} {w by_ n j sd : Nat} {wo : Option Nat} (hn : 1 ≤ n) (h : Bits kd se w by_ n j wo sd) (hs : ringM kd se w by_ n j = 16 ∨ ¬ noW w n j wo) : Bits kd se w by_ n (j + 1) wo sd := by
  refine ⟨h.1, fun b => ?_⟩
  rw [h.2]
  constructor
  · rintro ⟨m, i, x1, x2⟩; exact ⟨m, i, (seen_step hn).mpr (Or.inl x1), x2⟩
  · rintro ⟨m, i, x1, x2, x3, x4⟩
    rcases (seen_step hn).mp x1 with x1 | ⟨rfl, rfl⟩
    · exact ⟨m, i, x1, x2, x3, x4⟩
    · rcases hs with hs | hs
      · exact absurd (by rw [← x2]; exact hs) x3
      · exact absurd x4 hs
theorem bits_add {kd se : Nat → Nat} {w by_ n j sd : Nat} {wo : Option Nat} (hn : 1 ≤ n) (h : Bits kd se w by_ n j wo sd) (h16 : ringM kd se w by_ n j < 16) (hw : noW w n j wo) : Bits kd se w by_ n (j + 1) wo (sd ||| 2 ^ ringM kd se w by_ n j) := by
  refine ⟨or_bound h.1 h16, fun b => ?_⟩
  rw [tb_or, Bool.or_eq_true, h.2, decide_eq_true_iff]
  constructor
  · rintro (⟨m, i, x1, x2⟩ | x)
    · exact ⟨m, i, (seen_step hn).mpr (Or.inl x1), x2⟩
    · exact ⟨n, j, (seen_step hn).mpr (Or.inr ⟨rfl, rfl⟩), x, by omega, hw⟩
  · rintro ⟨m, i, x1, x2, x3, x4⟩
    rcases (seen_step hn).mp x1 with x1 | ⟨rfl, rfl⟩
    · exact Or.inl ⟨m, i, x1, x2, x3, x4⟩
    · exact Or.inr x2
theorem nI_or0 (a : Nat) (ha : a < 2 ^ 31) : nI a ||| 0 = nI a := by
  have := nI_or a 0 ha (by omega)
  rw [Nat.or_zero] at this
  exact this
theorem sets_in {N w by_ n : Nat} {kd se : Nat → Nat} {wo : Option Nat} {kinds sets : Nat → Int32} {Φ : Int32 → (Nat → Int32) → Prop} {k : Int32 → (Nat → Int32) → Prop} (hN : 8000 < N) (hK : KS w kd se kinds sets) (hw0 : 0 < w) (hby : by_ ≤ 4) (hn : 1 ≤ n) (hn5 : n ≤ 4) (ho : ∀ v, wo = some v → v < 100)
    (hk : ∀ sd F, Bits kd se w by_ n (w ^ n) wo sd → k (nI sd) F) :
    ∀ (l j fuel : Nat) (F : Nat → Int32) (sd : Nat), j + l + 1 = w ^ n → l < fuel → RN n (itR w n j) F → Bits kd se w by_ n j wo sd → lp_X12_sets_24 N (nI by_) (ow wo) (nI n) (nI w) kinds sets Φ k fuel (nI sd) F := by
  have hw := hK.1
  intro l
  induction l with
  | zero =>
    intro j fuel F sd hj hf hR hB
    obtain ⟨z, rfl⟩ : ∃ z, fuel = z + 1 := ⟨fuel - 1, by omega⟩
    have hd : ∀ i, i < n → itR w n j i < w := fun i hi => it_dig hw0 j i hi
    have hle : ringM kd se w by_ n j ≤ 16 := ringM_le hK hw0 (n1 := 6) (by omega) (by omega) hR
    have hsd := hB.1
    have hmo := it_more (n := n) hw0 (show j < w ^ n by omega)
    rw [decide_eq_false (by omega)] at hmo
    have hk' : ∀ sd F, Bits kd se w by_ n (j + 1) wo sd → k (nI sd) F := by rw [show j + 1 = w ^ n by omega]; exact hk
    rw [lp_X12_sets_24]
    refine wob_M (by omega) hR (fun i hi => by have := hd i hi; omega) ho ?_ n 0 N (by omega) (by omega)
    unfold ex_X12_sets_66
    rw [nI_or0 _ (by omega)]
    cases e : wob (itR w n j) wo n with
    | false =>
      have hno : ¬ noW w n j wo := fun y => by rw [(wob_spec _ _ n).mpr y] at e; cases e
      refine br_t rfl (next_M (by omega) (by omega) hw hR hd (fun F' hF' => ?_))
      rw [hmo]
      exact br_t rfl (hk' _ _ (bits_skip hn hB (Or.inr hno)))
    | true =>
      have hno : noW w n j wo := (wob_spec _ _ n).mp e
      refine br_f (by decide) (all_M (by omega) hK (RW_sm (by omega) (by omega) hR hd) hby ?_)
      show (nI (ringM kd se w by_ n j) = 16 → _) ∧ (_ → wp_X12_isNext _ _ _ _ _)
      by_cases h16 : ringM kd se w by_ n j = 16
      · refine br_t (by rw [h16]; rfl) (next_M (by omega) (by omega) hw hR hd (fun F' hF' => ?_))
        rw [hmo]
        exact br_t rfl (hk' _ _ (bits_skip hn hB (Or.inl h16)))
      · refine br_f (fun y => h16 ((nI_eq (b := 16) (by omega) (by omega)).mp y)) (next_M (by omega) (by omega) hw hR hd (fun F' hF' => ?_))
        have hp : 2 ^ ringM kd se w by_ n j < 2 ^ 16 := Nat.pow_lt_pow_right (by omega) (by omega)
        have hgo := hk' _ F' (bits_add hn hB (by omega) hno)
        rw [← nI_or _ _ (by omega) (by omega), ← sh1 _ (by omega)] at hgo
        rw [hmo]
        exact br_t rfl hgo
  | succ l ih =>
    intro j fuel F sd hj hf hR hB
    obtain ⟨z, rfl⟩ : ∃ z, fuel = z + 1 := ⟨fuel - 1, by omega⟩
    have hd : ∀ i, i < n → itR w n j i < w := fun i hi => it_dig hw0 j i hi
    have hle : ringM kd se w by_ n j ≤ 16 := ringM_le hK hw0 (n1 := 6) (by omega) (by omega) hR
    have hsd := hB.1
    have hmo := it_more (n := n) hw0 (show j < w ^ n by omega)
    rw [decide_eq_true (by omega)] at hmo
    have ih' := fun F' sd hF' => ih (j + 1) z F' sd (by omega) (by omega) hF'
    rw [lp_X12_sets_24]
    refine wob_M (by omega) hR (fun i hi => by have := hd i hi; omega) ho ?_ n 0 N (by omega) (by omega)
    unfold ex_X12_sets_66
    rw [nI_or0 _ (by omega)]
    cases e : wob (itR w n j) wo n with
    | false =>
      have hno : ¬ noW w n j wo := fun y => by rw [(wob_spec _ _ n).mpr y] at e; cases e
      refine br_t rfl (next_M (by omega) (by omega) hw hR hd (fun F' hF' => ?_))
      rw [hmo]
      exact br_f (by decide) (ih' _ _ hF' (bits_skip hn hB (Or.inr hno)))
    | true =>
      have hno : noW w n j wo := (wob_spec _ _ n).mp e
      refine br_f (by decide) (all_M (by omega) hK (RW_sm (by omega) (by omega) hR hd) hby ?_)
      show (nI (ringM kd se w by_ n j) = 16 → _) ∧ (_ → wp_X12_isNext _ _ _ _ _)
      by_cases h16 : ringM kd se w by_ n j = 16
      · refine br_t (by rw [h16]; rfl) (next_M (by omega) (by omega) hw hR hd (fun F' hF' => ?_))
        rw [hmo]
        exact br_f (by decide) (ih' _ _ hF' (bits_skip hn hB (Or.inl h16)))
      · refine br_f (fun y => h16 ((nI_eq (b := 16) (by omega) (by omega)).mp y)) (next_M (by omega) (by omega) hw hR hd (fun F' hF' => ?_))
        have hp : 2 ^ ringM kd se w by_ n j < 2 ^ 16 := Nat.pow_lt_pow_right (by omega) (by omega)
        have hgo := ih' F' _ hF' (bits_add hn hB (by omega) hno)
        rw [← nI_or _ _ (by omega) (by omega), ← sh1 _ (by omega)] at hgo
        rw [hmo]
        exact br_f (by decide) hgo
theorem sets_M {N w by_ : Nat} {kd se : Nat → Nat} {wo : Option Nat} {kinds sets F0 : Nat → Int32} {Φ : Int32 → (Nat → Int32) → Prop} (hN : 8000 < N) (hK : KS w kd se kinds sets) (hby : by_ ≤ 4) (ho : ∀ v, wo = some v → v < 100) (hΦ : ∀ sd F, Bits kd se w by_ 5 0 wo sd → Φ (nI sd) F) : wp_X12_sets N (nI by_) (ow wo) (nI w) kinds sets F0 Φ := by
  have hw := hK.1
  unfold wp_X12_sets
  have L : ∀ (l n fuel : Nat) (F : Nat → Int32) (sd : Nat), n + l = 5 → l < fuel → 1 ≤ n → Bits kd se w by_ n 0 wo sd → lp_X12_sets_5 N (nI by_) (ow wo) (nI w) kinds sets Φ fuel (nI sd) (nI n) F := by
    intro l
    induction l with
    | zero =>
      intro n fuel F sd hn hf h1 hB
      obtain ⟨z, rfl⟩ : ∃ z, fuel = z + 1 := ⟨fuel - 1, by omega⟩
      rw [lp_X12_sets_5]
      obtain rfl : n = 5 := by omega
      exact br_t (by decide) (hΦ _ _ hB)
    | succ l ih =>
      intro n fuel F sd hn hf h1 hB
      obtain ⟨z, rfl⟩ : ∃ z, fuel = z + 1 := ⟨fuel - 1, by omega⟩
      rw [lp_X12_sets_5]
      refine br_f (nI_ge (a := n) (b := 5) (by omega) (by omega)) ?_
      rcases Nat.eq_zero_or_pos w with e | hw0
      · subst e
        refine br_t (by decide) (hΦ _ _ ⟨hB.1, fun b => ?_⟩)
        rw [hB.2]
        have nos : ∀ n m i, ¬ Seen 0 n 0 m i := by
          rintro n m i ⟨a, b | b⟩
          · rw [Nat.zero_pow (by omega)] at b; omega
          · omega
        constructor
        · rintro ⟨m, i, x, _⟩; exact absurd x (nos _ _ _)
        · rintro ⟨m, i, x, _⟩; exact absurd x (nos _ _ _)
      · refine br_f (nI_nle hw0 (by omega)) (begin_M (by omega) (by omega) (fun F' hF' => ?_))
        have hp := pow_pos' (n := n) hw0
        have hp6 := pow6 hw (show n ≤ 5 by omega)
        refine sets_in hN hK hw0 hby h1 (by omega) ho (fun sd F2 hB2 => ?_) (w ^ n - 1) 0 N F' sd (by omega) (by omega) hF' hB
        unfold ex_X12_sets_116
        rw [nI_1]
        refine ih (n + 1) z F2 sd (by omega) (by omega) (by omega) ⟨hB2.1, fun b => ?_⟩
        rw [hB2.2]
        constructor
        · rintro ⟨m, i, x, y⟩; exact ⟨m, i, (seen_next h1).mpr x, y⟩
        · rintro ⟨m, i, x, y⟩; exact ⟨m, i, (seen_next h1).mp x, y⟩
  refine L 4 1 N F0 0 (by omega) (by omega) (by omega) ⟨by omega, fun b => ?_⟩
  simp only [Nat.zero_testBit, Bool.false_eq_true, false_iff]
  rintro ⟨m, i, h, _⟩; exact seen_1 h
