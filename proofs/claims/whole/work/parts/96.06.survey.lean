/-! what is known of the short rings: the class's survey -/
theorem sh1 : ∀ s, s < 17 → (1 : Int32) <<< (nI s &&& 31) = nI (2 ^ s) := by decide +kernel
theorem usedBit : ∀ u, u < 64 → ∀ v, v < 6 → (((nI u >>> (nI v &&& 31)) &&& 1 = 0) ↔ u.testBit v = false) := by decide +kernel
theorem tb_or (a s b : Nat) : (a ||| 2 ^ s).testBit b = (a.testBit b || decide (s = b)) := by rw [Nat.testBit_or, Nat.testBit_two_pow]
theorem or_bound {a s k : Nat} (ha : a < 2 ^ k) (hs : s < k) : a ||| 2 ^ s < 2 ^ k := Nat.or_lt_two_pow ha (Nat.pow_lt_pow_right (by omega) hs)
/-- the meaning of ring number j of n places -/
def ringM (kd se : Nat → Nat) (w by_ n j : Nat) : Nat := allM kd se (sm (itR w n j)) n by_
/-- ring j of n places is the first of its turns and means one thing -/
def good (kd se : Nat → Nat) (w by_ n j : Nat) : Bool := ft (itR w n j) n && decide (ringM kd se w by_ n j ≠ 16)
/-- gone through ahead of ring j of n places -/
def Seen (w n j m i : Nat) : Prop := 1 ≤ m ∧ ((m < n ∧ i < w ^ m) ∨ (m = n ∧ i < j))
def cnt (p : Nat → Bool) : Nat → Nat
  | 0 => 0
  | j + 1 => cnt p j + (if p j then 1 else 0)
theorem cnt_le (p : Nat → Bool) : ∀ j, cnt p j ≤ j := by
  intro j
  induction j with
  | zero => exact Nat.le_refl 0
  | succ j ih => rw [cnt]; split <;> omega
/-- has no word v -/
def hasNo (w n j v : Nat) : Prop := ∀ k, k < n → itR w n j k ≠ v
def SV (kd se : Nat → Nat) (w by_ n j : Nat) (said : Int32) (fewest firsts counts without : Nat → Int32) : Prop :=
  (∀ m, 1 ≤ m → m ≤ 5 → counts m = nI (cnt (good kd se w by_ m) (if m < n then w ^ m else if m = n then j else 0))) ∧
  (∃ sd, said = nI sd ∧ sd < 2 ^ 16 ∧ ∀ b, sd.testBit b = true ↔ ∃ m i, m ≤ 4 ∧ Seen w n j m i ∧ good kd se w by_ m i = true ∧ ringM kd se w by_ m i = b) ∧
  (∀ v, v < w → ∃ sd, without v = nI sd ∧ sd < 2 ^ 16 ∧ ∀ b, sd.testBit b = true ↔ ∃ m i, m ≤ 4 ∧ Seen w n j m i ∧ good kd se w by_ m i = true ∧ ringM kd se w by_ m i = b ∧ hasNo w m i v) ∧
  (∀ s, s < 16 → (fewest s = 0 ∧ ∀ m i, m ≤ 5 → Seen w n j m i → good kd se w by_ m i = true → ringM kd se w by_ m i ≠ s) ∨
    (∃ m i, m ≤ 5 ∧ Seen w n j m i ∧ good kd se w by_ m i = true ∧ ringM kd se w by_ m i = s ∧ fewest s = nI m ∧ (∀ k, k < m → firsts (s * 5 + k) = nI (itR w m i k)) ∧
      ∀ m' i', m' ≤ 5 → Seen w m i m' i' → good kd se w by_ m' i' = true → ringM kd se w by_ m' i' ≠ s))
theorem seen_step {w n j m i : Nat} (h1 : 1 ≤ n) : Seen w n (j + 1) m i ↔ Seen w n j m i ∨ (m = n ∧ i = j) := by
  unfold Seen
  constructor
  · rintro ⟨h, h2 | h2⟩
    · exact Or.inl ⟨h, Or.inl h2⟩
    · rcases Nat.lt_or_ge i j with h3 | h3
      · exact Or.inl ⟨h, Or.inr ⟨h2.1, h3⟩⟩
      · exact Or.inr ⟨h2.1, by omega⟩
  · rintro (⟨h, h2⟩ | ⟨rfl, rfl⟩)
    · exact ⟨h, by omega⟩
    · exact ⟨h1, Or.inr ⟨rfl, by omega⟩⟩
theorem seen_next {w n m i : Nat} (h1 : 1 ≤ n) : Seen w (n + 1) 0 m i ↔ Seen w n (w ^ n) m i := by
  unfold Seen
  constructor
  · rintro ⟨h, h2 | h2⟩
    · rcases Nat.lt_or_ge m n with h3 | h3
      · exact ⟨h, Or.inl ⟨h3, h2.2⟩⟩
      · have e : m = n := by omega
        subst e
        exact ⟨h, Or.inr ⟨rfl, h2.2⟩⟩
    · omega
  · rintro ⟨h, h2 | h2⟩
    · exact ⟨h, Or.inl ⟨by omega, h2.2⟩⟩
    · obtain ⟨rfl, h3⟩ := h2
      exact ⟨h, Or.inl ⟨by omega, h3⟩⟩
theorem SV_next {kd se : Nat → Nat} {w by_ n : Nat} {said : Int32} {fewest firsts counts without : Nat → Int32} (h1 : 1 ≤ n) (h : SV kd se w by_ n (w ^ n) said fewest firsts counts without) : SV kd se w by_ (n + 1) 0 said fewest firsts counts without := by
  obtain ⟨a, b, c, d⟩ := h
  refine ⟨fun m hm h5 => ?_, ?_, ?_, ?_⟩
  · rw [a m hm h5]
    congr 2
    rcases Nat.lt_trichotomy m n with h | h | h
    · rw [if_pos h, if_pos (by omega)]
    · subst h; rw [if_neg (by omega), if_pos rfl, if_pos (by omega)]
    · rw [if_neg (by omega), if_neg (by omega)]
      by_cases e : m = n + 1
      · rw [if_neg (by omega), if_pos e]
      · rw [if_neg (by omega), if_neg e]
  · simpa only [seen_next h1] using b
  · simpa only [seen_next h1] using c
  · simpa only [seen_next h1] using d
theorem SV_skip {kd se : Nat → Nat} {w by_ n j : Nat} {said : Int32} {fewest firsts counts without : Nat → Int32} (h1 : 1 ≤ n) (hg : good kd se w by_ n j = false) (h : SV kd se w by_ n j said fewest firsts counts without) : SV kd se w by_ n (j + 1) said fewest firsts counts without := by
  obtain ⟨a, ⟨sd, b1, b2, b3⟩, c, d⟩ := h
  refine ⟨fun m hm h5 => ?_, ⟨sd, b1, b2, fun b => ?_⟩, fun v hv => ?_, fun s hs => ?_⟩
  · rw [a m hm h5]
    rcases Nat.lt_trichotomy m n with h | h | h
    · rw [if_pos h, if_pos h]
    · subst h; rw [if_neg (by omega), if_pos rfl, if_neg (by omega), if_pos rfl, cnt, hg]; simp
    · rw [if_neg (by omega), if_neg (by omega), if_neg (by omega), if_neg (by omega)]
  · rw [b3]
    constructor
    · rintro ⟨m, i, x1, x2, x3⟩; exact ⟨m, i, x1, (seen_step h1).mpr (Or.inl x2), x3⟩
    · rintro ⟨m, i, x1, x2, x3, x4⟩
      rcases (seen_step h1).mp x2 with x2 | ⟨rfl, rfl⟩
      · exact ⟨m, i, x1, x2, x3, x4⟩
      · rw [hg] at x3; cases x3
  · obtain ⟨sd, b1, b2, b3⟩ := c v hv
    refine ⟨sd, b1, b2, fun b => ?_⟩
    rw [b3]
    constructor
    · rintro ⟨m, i, x1, x2, x3⟩; exact ⟨m, i, x1, (seen_step h1).mpr (Or.inl x2), x3⟩
    · rintro ⟨m, i, x1, x2, x3, x4⟩
      rcases (seen_step h1).mp x2 with x2 | ⟨rfl, rfl⟩
      · exact ⟨m, i, x1, x2, x3, x4⟩
      · rw [hg] at x3; cases x3
  · rcases d s hs with ⟨d1, d2⟩ | ⟨m, i, d0, d1, d2⟩
    · refine Or.inl ⟨d1, fun m i x0 x2 x3 => ?_⟩
      rcases (seen_step h1).mp x2 with x2 | ⟨rfl, rfl⟩
      · exact d2 m i x0 x2 x3
      · rw [hg] at x3; cases x3
    · exact Or.inr ⟨m, i, d0, (seen_step h1).mpr (Or.inl d1), d2⟩
/-- the words of a ring as bits -/
theorem ub_loop {N n : Nat} {F : Nat → Int32} {f : Nat → Nat} {Φ : (Nat → Int32) → Prop} {k : Int32 → Prop} (hn : n ≤ 5) (hR : RN n f F) (hf : ∀ i, i < n → f i < 6) :
    ∀ (l i fuel u : Nat), i + l = n → l < fuel → u < 64 → (∀ v, u.testBit v = true ↔ ∃ q, q < i ∧ f q = v) → (∀ u, u < 64 → (∀ v, u.testBit v = true ↔ ∃ q, q < n ∧ f q = v) → k (nI u)) → lp_X6_noteWithout_6 N (nI n) F Φ k fuel (nI u) (nI i) := by
  intro l
  induction l with
  | zero =>
    intro i fuel u hi hfu hu hb h
    obtain ⟨z, rfl⟩ : ∃ z, fuel = z + 1 := ⟨fuel - 1, by omega⟩
    rw [lp_X6_noteWithout_6]
    refine br_t (nI_le (by omega) (by omega)) (h u hu (fun v => ?_))
    rw [hb]
    rw [show i = n by omega]
  | succ l ih =>
    intro i fuel u hi hfu hu hb h
    obtain ⟨z, rfl⟩ : ∃ z, fuel = z + 1 := ⟨fuel - 1, by omega⟩
    have h6 := hf i (by omega)
    rw [lp_X6_noteWithout_6, nI_1, nI_clamp (show i < 2 ^ 31 by omega), hR i (by omega), sh1 _ (by omega)]
    have hp : 2 ^ f i < 2 ^ 6 := Nat.pow_lt_pow_right (by omega) h6
    rw [nI_or _ _ (by omega) (by omega)]
    refine br_f (nI_ge (by omega) (by omega)) ⟨in_nI (by omega) (by omega), ih (i + 1) z _ (by omega) (by omega) (or_bound (k := 6) hu h6) (fun v => ?_) h⟩
    rw [tb_or, Bool.or_eq_true, hb, decide_eq_true_iff]
    constructor
    · rintro (⟨q, h1, h2⟩ | h1)
      · exact ⟨q, by omega, h2⟩
      · exact ⟨i, by omega, h1⟩
    · rintro ⟨q, h1, h2⟩
      rcases Nat.lt_or_ge q i with h3 | h3
      · exact Or.inl ⟨q, h3, h2⟩
      · rw [show q = i by omega] at h2; exact Or.inr h2
theorem wo_loop {N w s u : Nat} {G : Nat → Int32} {Φ : (Nat → Int32) → Prop} {x1 : Int32} (hx1 : x1 = nI s) (hw : w ≤ 6) (hs : s < 16) (hu : u < 64) :
    ∀ (l i fuel : Nat) (F : Nat → Int32), i + l = w → l < fuel → (∀ v, v < w → i ≤ v → F v = G v) → (∀ v, v < i → F v = if u.testBit v then G v else G v ||| nI (2 ^ s)) → (∀ F', (∀ v, v < w → F' v = if u.testBit v then G v else G v ||| nI (2 ^ s)) → Φ F') → lp_X6_noteWithout_35 N x1 (nI w) (nI u) Φ fuel (nI i) F := by
  subst hx1
  intro l
  induction l with
  | zero =>
    intro i fuel F hi hfu h1 h2 h
    obtain ⟨z, rfl⟩ : ∃ z, fuel = z + 1 := ⟨fuel - 1, by omega⟩
    rw [lp_X6_noteWithout_35]
    exact br_t (nI_le (by omega) (by omega)) (h F (fun v hv => h2 v (by omega)))
  | succ l ih =>
    intro i fuel F hi hfu h1 h2 h
    obtain ⟨z, rfl⟩ : ∃ z, fuel = z + 1 := ⟨fuel - 1, by omega⟩
    rw [lp_X6_noteWithout_35, nI_1, nI_clamp (show i < 2 ^ 31 by omega), sh1 _ (by omega)]
    have hv : vp_in (nI i) 6 := in_nI (by omega) (by omega)
    refine br_f (nI_ge (by omega) (by omega)) (br_c (fun c => ⟨hv, hv, ?_⟩) (fun c => ?_))
    · have c' := (usedBit u hu i (by omega)).mp c
      refine ih (i + 1) z _ (by omega) (by omega) (fun v hv hi => ?_) (fun v hv => ?_) h
      · rw [pk_un (by omega)]; exact h1 v hv (by omega)
      · by_cases e : v = i
        · subst e; rw [pk_us, c', h1 v (by omega) (Nat.le_refl v)]; rfl
        · rw [pk_un e]; exact h2 v (by omega)
    · have c' : u.testBit i = true := by
        cases e : u.testBit i with
        | true => rfl
        | false => exact absurd ((usedBit u hu i (by omega)).mpr e) c
      refine ih (i + 1) z F (by omega) (by omega) (fun v hv hi => h1 v hv (by omega)) (fun v hv => ?_) h
      by_cases e : v = i
      · subst e; rw [c', h1 v (by omega) (Nat.le_refl v)]; rfl
      · exact h2 v (by omega)
/-- a ring noted: SV goes on -/
theorem note_X {N : Nat} {kd se : Nat → Nat} {w by_ n j : Nat} {said : Int32} {fewest firsts counts without row : Nat → Int32} {Φ : Int32 → (Nat → Int32) → (Nat → Int32) → (Nat → Int32) → (Nat → Int32) → Prop} (hN : 100 < N) (hw : w ≤ 6) (hw0 : 0 < w) (hn : 1 ≤ n) (hn5 : n ≤ 5) (hle : ringM kd se w by_ n j ≤ 16) (hg : good kd se w by_ n j = true) (hR : RN n (itR w n j) row) (h : SV kd se w by_ n j said fewest firsts counts without)
    (hΦ : ∀ said fewest firsts counts without, SV kd se w by_ n (j + 1) said fewest firsts counts without → Φ said fewest firsts counts without) : wp_X6_note N (nI (ringM kd se w by_ n j)) (nI n) (nI w) said fewest firsts counts without row Φ := by
  have hs : ringM kd se w by_ n j < 16 := by
    unfold good at hg
    simp at hg
    omega
  generalize hsd : ringM kd se w by_ n j = s at hs
  obtain ⟨a, ⟨sd, b1, b2, b3⟩, c, d⟩ := h
  have v6 : vp_in (nI n) 6 := in_nI (by omega) (by omega)
  have v16 : vp_in (nI s) 16 := in_nI hs (by omega)
  have cn : (nI n).toNatClampNeg = n := nI_clamp (by omega)
  have cs : (nI s).toNatClampNeg = s := nI_clamp (by omega)
  have e5 : nI s * 5 = nI (s * 5) := pk_mul s 5
  have c5 : (nI (s * 5)).toNatClampNeg = s * 5 := nI_clamp (by omega)
  have c0 : (0 : Int32).toNatClampNeg = 0 := by decide
  have hdig := it_dig (n := n) hw0 j
  unfold wp_X6_note
  rw [e5, cn, cs, c5, c0]
  -- the new counts
  have hcounts : ∀ m, 1 ≤ m → m ≤ 5 → (upd counts n (counts n + 1)) m = nI (cnt (good kd se w by_ m) (if m < n then w ^ m else if m = n then j + 1 else 0)) := by
    intro m hm h5
    rcases Nat.lt_trichotomy m n with h | h | h
    · rw [pk_un (by omega), a m hm h5, if_pos h, if_pos h]
    · subst h
      rw [pk_us, a m hm h5, if_neg (by omega), if_pos rfl, if_neg (by omega), if_pos rfl, cnt, hg, nI_1]
      rfl
    · rw [pk_un (by omega), a m hm h5, if_neg (by omega), if_neg (by omega), if_neg (by omega), if_neg (by omega)]
  -- the new fewest and firsts
  have hfew : ∀ (fw fs : Nat → Int32), (∀ t, t < 16 → t ≠ s → fw t = fewest t ∧ ∀ k, k < 5 → fs (t * 5 + k) = firsts (t * 5 + k)) → ((fewest s = 0 ∧ fw s = nI n ∧ ∀ k, k < n → fs (s * 5 + k) = nI (itR w n j k)) ∨ (fewest s ≠ 0 ∧ fw s = fewest s ∧ ∀ k, k < 5 → fs (s * 5 + k) = firsts (s * 5 + k))) →
      ∀ t, t < 16 → (fw t = 0 ∧ ∀ m i, m ≤ 5 → Seen w n (j + 1) m i → good kd se w by_ m i = true → ringM kd se w by_ m i ≠ t) ∨ (∃ m i, m ≤ 5 ∧ Seen w n (j + 1) m i ∧ good kd se w by_ m i = true ∧ ringM kd se w by_ m i = t ∧ fw t = nI m ∧ (∀ k, k < m → fs (t * 5 + k) = nI (itR w m i k)) ∧ ∀ m' i', m' ≤ 5 → Seen w m i m' i' → good kd se w by_ m' i' = true → ringM kd se w by_ m' i' ≠ t) := by
    intro fw fs ho hself t ht
    by_cases e : t = s
    · subst e
      rcases hself with ⟨f0, f1, f2⟩ | ⟨f0, f1, f2⟩
      · rcases d t ht with ⟨d1, d2⟩ | ⟨m, i, d0, d1, d2, d3, d4, d5, d6⟩
        · exact Or.inr ⟨n, j, hn5, (seen_step hn).mpr (Or.inr ⟨rfl, rfl⟩), hg, hsd, f1, f2, d2⟩
        · have hm1 := d1.1
          rw [d4] at f0
          exact absurd f0 (nI_ne0 (by omega) (by omega))
      · rcases d t ht with ⟨d1, d2⟩ | ⟨m, i, d0, d1, d2, d3, d4, d5, d6⟩
        · exact absurd d1 f0
        · exact Or.inr ⟨m, i, d0, (seen_step hn).mpr (Or.inl d1), d2, d3, by rw [f1]; exact d4, fun k hk => by rw [f2 k (by omega)]; exact d5 k hk, d6⟩
    · obtain ⟨o1, o2⟩ := ho t ht e
      rcases d t ht with ⟨d1, d2⟩ | ⟨m, i, d0, d1, d2, d3, d4, d5, d6⟩
      · refine Or.inl ⟨by rw [o1]; exact d1, fun m i x0 x2 x3 => ?_⟩
        rcases (seen_step hn).mp x2 with x2 | ⟨rfl, rfl⟩
        · exact d2 m i x0 x2 x3
        · rw [hsd]; exact fun z => e z.symm
      · exact Or.inr ⟨m, i, d0, (seen_step hn).mpr (Or.inl d1), d2, d3, by rw [o1]; exact d4, fun k hk => by rw [o2 k (by omega)]; exact d5 k hk, d6⟩
  -- said and saidWithout where n is at most 4, and where it is 5
  have hold : ¬ n ≤ 4 → ∀ (P : Nat → Nat → Prop), (∃ m i, m ≤ 4 ∧ Seen w n j m i ∧ good kd se w by_ m i = true ∧ P m i) ↔ (∃ m i, m ≤ 4 ∧ Seen w n (j + 1) m i ∧ good kd se w by_ m i = true ∧ P m i) := by
    intro h4 P
    constructor
    · rintro ⟨m, i, x1, x2, x3⟩; exact ⟨m, i, x1, (seen_step hn).mpr (Or.inl x2), x3⟩
    · rintro ⟨m, i, x1, x2, x3⟩
      rcases (seen_step hn).mp x2 with x2 | ⟨rfl, rfl⟩
      · exact ⟨m, i, x1, x2, x3⟩
      · exact absurd x1 h4
  have hnew : n ≤ 4 → ∀ (P : Nat → Nat → Prop), (∃ m i, m ≤ 4 ∧ Seen w n (j + 1) m i ∧ good kd se w by_ m i = true ∧ P m i) ↔ (∃ m i, m ≤ 4 ∧ Seen w n j m i ∧ good kd se w by_ m i = true ∧ P m i) ∨ P n j := by
    intro h4 P
    constructor
    · rintro ⟨m, i, x1, x2, x3, x4⟩
      rcases (seen_step hn).mp x2 with x2 | ⟨rfl, rfl⟩
      · exact Or.inl ⟨m, i, x1, x2, x3, x4⟩
      · exact Or.inr x4
    · rintro (⟨m, i, x1, x2, x3⟩ | x4)
      · exact ⟨m, i, x1, (seen_step hn).mpr (Or.inl x2), x3⟩
      · exact ⟨n, j, h4, (seen_step hn).mpr (Or.inr ⟨rfl, rfl⟩), hg, x4⟩
  have h5case : ∀ fw fs, (∀ t, t < 16 → (fw t = 0 ∧ ∀ m i, m ≤ 5 → Seen w n (j + 1) m i → good kd se w by_ m i = true → ringM kd se w by_ m i ≠ t) ∨ (∃ m i, m ≤ 5 ∧ Seen w n (j + 1) m i ∧ good kd se w by_ m i = true ∧ ringM kd se w by_ m i = t ∧ fw t = nI m ∧ (∀ k, k < m → fs (t * 5 + k) = nI (itR w m i k)) ∧ ∀ m' i', m' ≤ 5 → Seen w m i m' i' → good kd se w by_ m' i' = true → ringM kd se w by_ m' i' ≠ t)) →
      ((4 < nI n → Φ said fw fs (upd counts n (counts n + 1)) without) ∧ (¬ (4 < nI n) → wp_X6_noteWithout N (nI s) (nI n) (nI w) without row (fun o => Φ (said ||| (1 <<< (nI s &&& 31))) fw fs (upd counts n (counts n + 1)) o))) := by
    intro fw fs hd
    refine br_c (fun c4 => ?_) (fun c4 => ?_)
    · have h4 : ¬ n ≤ 4 := by
        have := (nI_ltI (a := 4) (b := n) (by omega) (by omega)).mp c4
        omega
      refine hΦ _ _ _ _ _ ⟨hcounts, ⟨sd, b1, b2, fun b => ?_⟩, fun v hv => ?_, hd⟩
      · rw [b3]; exact hold h4 (fun m i => ringM kd se w by_ m i = b)
      · obtain ⟨sv, y1, y2, y3⟩ := c v hv
        refine ⟨sv, y1, y2, fun b => ?_⟩
        rw [y3]; exact hold h4 (fun m i => ringM kd se w by_ m i = b ∧ hasNo w m i v)
    · have h4 : n ≤ 4 := by
        rcases Nat.lt_or_ge 4 n with z | z
        · exact absurd (nI_lt (a := 4) z (by omega)) c4
        · exact z
      unfold wp_X6_noteWithout
      refine ub_loop (by omega) hR (fun i hi => Nat.lt_of_lt_of_le (hdig i hi) hw) n 0 N 0 (by omega) (by omega) (by omega) (fun v => by simp) (fun u hu hub => ?_)
      unfold ex_X6_noteWithout_32
      refine wo_loop rfl hw hs hu w 0 N without (by omega) (by omega) (fun v _ _ => rfl) (fun v hv => by omega) (fun F' hF => ?_)
      have hp : 2 ^ s < 2 ^ 16 := Nat.pow_lt_pow_right (by omega) hs
      refine hΦ _ _ _ _ _ ⟨hcounts, ⟨sd ||| 2 ^ s, ?_, or_bound b2 hs, fun b => ?_⟩, fun v hv => ?_, hd⟩
      · rw [b1, sh1 _ (by omega), nI_or _ _ (by omega) (by omega)]
      · rw [tb_or, Bool.or_eq_true, b3, decide_eq_true_iff, hnew h4 (fun m i => ringM kd se w by_ m i = b), hsd]
      · obtain ⟨sv, y1, y2, y3⟩ := c v hv
        have hno : hasNo w n j v ↔ ¬ u.testBit v = true := by
          rw [hub]
          constructor
          · rintro z ⟨q, z1, z2⟩; exact z q z1 z2
          · intro z k hk e; exact z ⟨k, hk, e⟩
        cases e : u.testBit v with
        | true =>
          refine ⟨sv, by rw [hF v hv, e]; exact y1, y2, fun b => ?_⟩
          rw [y3, hnew h4 (fun m i => ringM kd se w by_ m i = b ∧ hasNo w m i v)]
          refine ⟨Or.inl, fun z => z.resolve_right (fun y => ?_)⟩
          exact absurd e (hno.mp y.2)
        | false =>
          refine ⟨sv ||| 2 ^ s, ?_, or_bound y2 hs, fun b => ?_⟩
          · rw [hF v hv, e, y1]
            show nI sv ||| nI (2 ^ s) = _
            rw [nI_or _ _ (by omega) (by omega)]
          · rw [tb_or, Bool.or_eq_true, y3, decide_eq_true_iff, hnew h4 (fun m i => ringM kd se w by_ m i = b ∧ hasNo w m i v), hsd]
            have : hasNo w n j v := hno.mpr (by rw [e]; simp)
            constructor
            · rintro (z | z)
              · exact Or.inl z
              · exact Or.inr ⟨z, this⟩
            · rintro (z | z)
              · exact Or.inl z
              · exact Or.inr z.1
  refine ⟨v6, v6, v16, br_c (fun cf => ⟨v16, nI_pos (by omega), nI_pos (by omega), by omega, by omega, ?_⟩) (fun cf => ?_)⟩
  · refine h5case _ _ (hfew _ _ (fun t ht he => ⟨pk_un he, fun k hk => ?_⟩) (Or.inl ⟨cf, pk_us, fun k hk => ?_⟩))
    · refine pk_cpy_out ?_
      rcases Nat.lt_or_ge t s with z | z
      · left; omega
      · right
        have : s + 1 ≤ t := by omega
        omega
    · rw [pk_cpy_in (by omega) (by omega), show 0 + (s * 5 + k - s * 5) = k by omega]
      exact hR k hk
  · exact h5case _ _ (hfew _ _ (fun t ht he => ⟨rfl, fun k hk => rfl⟩) (Or.inr ⟨cf, rfl, fun k hk => rfl⟩))
