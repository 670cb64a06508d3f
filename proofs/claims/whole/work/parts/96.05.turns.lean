/-! turned rings -/
def rot (n b : Nat) (f : Nat → Nat) : Nat → Nat := fun i => f ((i + b) % n)
def tca (f : Nat → Nat) (n : Nat) : Nat → Nat → Nat → Bool
  | 0, _, _ => false
  | l + 1, t, i => if f t = f i then tca f n l ((t + 1) % n) (i + 1) else decide (f t < f i)
def ftL (f : Nat → Nat) (n : Nat) : Nat → Nat → Bool
  | 0, _ => true
  | l + 1, b => if tca f n n b 0 = true then false else ftL f n l (b + 1)
def ft (f : Nat → Nat) (n : Nat) : Bool := ftL f n (n - 1) 1
theorem val_lex {w : Nat} {f g : Nat → Nat} {k : Nat} (he : ∀ i, i < k → g i = f i) (hlt : g k < f k) : ∀ n, k < n → (∀ i, i < n → g i < w) → val w n g < val w n f := by
  intro n
  induction n with
  | zero => intro h; omega
  | succ n ih =>
    intro hk hg
    rcases Nat.lt_or_ge k n with h | h
    · have h1 := ih h (fun i hi => hg i (by omega))
      have h2 := hg n (by omega)
      rw [val, val]
      calc val w n g * w + g n < val w n g * w + w := by omega
        _ = (val w n g + 1) * w := by rw [Nat.add_mul]; omega
        _ ≤ val w n f * w := Nat.mul_le_mul_right w h1
        _ ≤ val w n f * w + f n := Nat.le_add_right _ _
    · have e : n = k := by omega
      subst e
      rw [val, val, val_congr n g f he]
      omega
theorem add_mod_r (a b n : Nat) : (a % n + b) % n = (a + b) % n := by rw [Nat.add_mod, Nat.mod_mod, ← Nat.add_mod]
theorem tca_spec {w n b : Nat} {f : Nat → Nat} (hn : 0 < n) (hf : ∀ i, i < n → f i < w) : ∀ l i, i + l = n → (∀ k, k < i → rot n b f k = f k) → (tca f n l ((i + b) % n) i = true → val w n (rot n b f) < val w n f) ∧ (tca f n l ((i + b) % n) i = false → val w n f ≤ val w n (rot n b f)) := by
  intro l
  have hr : ∀ i, i < n → rot n b f i < w := fun i _ => hf _ (Nat.mod_lt _ hn)
  induction l with
  | zero =>
    intro i hi he
    rw [tca]
    refine ⟨fun h => by simp at h, fun _ => ?_⟩
    rw [val_congr n (rot n b f) f (fun k hk => he k (by omega))]
    exact Nat.le_refl _
  | succ l ih =>
    intro i hi he
    rw [tca]
    by_cases h : f ((i + b) % n) = f i
    · rw [if_pos h]
      have e : ((i + b) % n + 1) % n = (i + 1 + b) % n := by rw [add_mod_r]; congr 1; omega
      rw [e]
      refine ih (i + 1) (by omega) (fun k hk => ?_)
      rcases Nat.lt_or_ge k i with h1 | h1
      · exact he k h1
      · rw [show k = i by omega]; exact h
    · rw [if_neg h]
      constructor
      · intro z
        exact val_lex (k := i) he (show f ((i + b) % n) < f i by simpa using z) n (by omega) hr
      · intro z
        have z' : ¬ f ((i + b) % n) < f i := by simpa using z
        have : f i < rot n b f i := by show f i < f ((i + b) % n); omega
        exact Nat.le_of_lt (val_lex (k := i) (fun k hk => (he k hk).symm) this n (by omega) hf)
theorem ftL_spec {w n : Nat} {f : Nat → Nat} (hn : 0 < n) (hf : ∀ i, i < n → f i < w) : ∀ l b, b + l = n → 1 ≤ b → (ftL f n l b = true ↔ ∀ c, b ≤ c → c < n → val w n f ≤ val w n (rot n c f)) := by
  intro l
  induction l with
  | zero => intro b hb _; rw [ftL]; exact ⟨fun _ c h1 h2 => by omega, fun _ => rfl⟩
  | succ l ih =>
    intro b hb h1
    rw [ftL]
    have hs := tca_spec (b := b) hn hf n 0 (by omega) (fun k hk => by omega)
    rw [Nat.zero_add, Nat.mod_eq_of_lt (by omega)] at hs
    cases e : tca f n n b 0 with
    | true =>
      rw [if_pos rfl]
      refine ⟨fun z => by simp at z, fun z => ?_⟩
      have := z b (Nat.le_refl b) (by omega)
      have := hs.1 e
      omega
    | false =>
      rw [if_neg (by simp), ih (b + 1) (by omega) (by omega)]
      constructor
      · intro z c h2 h3
        rcases Nat.eq_or_lt_of_le h2 with rfl | h4
        · exact hs.2 e
        · exact z c h4 h3
      · exact fun z c h2 h3 => z c (by omega) h3
theorem ft_spec {w n : Nat} {f : Nat → Nat} (hn : 0 < n) (hf : ∀ i, i < n → f i < w) : ft f n = true ↔ ∀ c, 1 ≤ c → c < n → val w n f ≤ val w n (rot n c f) := ftL_spec hn hf (n - 1) 1 (by omega) (Nat.le_refl 1)
theorem tca_congr {f g : Nat → Nat} {n : Nat} (hn : 0 < n) (h : ∀ i, i < n → f i = g i) : ∀ l t i, t < n → i + l = n → tca f n l t i = tca g n l t i := by
  intro l
  induction l with
  | zero => intro t i _ _; rfl
  | succ l ih => intro t i ht hi; rw [tca, tca, h t ht, h i (by omega), ih _ _ (Nat.mod_lt _ hn) (by omega)]
theorem ftL_congr {f g : Nat → Nat} {n : Nat} (hn : 0 < n) (h : ∀ i, i < n → f i = g i) : ∀ l b, b + l = n → ftL f n l b = ftL g n l b := by
  intro l
  induction l with
  | zero => intro b _; rfl
  | succ l ih => intro b hb; rw [ftL, ftL, tca_congr hn h n b 0 (by omega) (by omega), ih (b + 1) (by omega)]
theorem ft_congr {f g : Nat → Nat} {n : Nat} (hn : 0 < n) (h : ∀ i, i < n → f i = g i) : ft f n = ft g n := ftL_congr hn h _ _ (by omega)
/-- among the turned ones there is a first -/
theorem ft_some {w n : Nat} {f : Nat → Nat} (hn : 0 < n) (hf : ∀ i, i < n → f i < w) : ∃ b, b < n ∧ ft (rot n b f) n = true ∧ val w n (rot n b f) ≤ val w n f := by
  obtain ⟨m, ⟨b, hb, hm⟩, hmin⟩ := pk_least (fun m => ∃ b, b < n ∧ val w n (rot n b f) = m) ⟨_, 0, hn, rfl⟩
  have h0 : val w n (rot n 0 f) = val w n f := val_congr n _ _ (fun i hi => by show f ((i + 0) % n) = f i; rw [Nat.add_zero, Nat.mod_eq_of_lt hi])
  refine ⟨b, hb, (ft_spec hn (fun i hi => hf _ (Nat.mod_lt _ hn))).mpr (fun c h1 h2 => ?_), ?_⟩
  rotate_left
  · rcases Nat.lt_or_ge (val w n f) (val w n (rot n b f)) with z | z
    · rw [hm] at z
      exact absurd ⟨0, hn, h0⟩ (hmin _ z)
    · exact z
  show val w n (rot n b f) ≤ val w n (rot n c (rot n b f))
  rw [hm]
  rcases Nat.lt_or_ge (val w n (rot n c (rot n b f))) m with h | h
  · refine absurd ⟨(b + c) % n, Nat.mod_lt _ hn, ?_⟩ (hmin _ h)
    refine val_congr n _ _ (fun i hi => ?_)
    show f ((i + (b + c) % n) % n) = f (((i + c) % n + b) % n)
    rw [add_mod_r, Nat.add_mod, Nat.mod_mod, ← Nat.add_mod]
    congr 2; omega
  · exact h
/-! a turned ring means the same from all places -/
def sm (f : Nat → Nat) : Nat → Option Nat := fun i => some (f i)
theorem rdF_rot {n b st : Nat} {f : Nat → Nat} (hn : 0 < n) : ∀ l p, p < n → rdF (sm (rot n b f)) n st l p = rdF (sm f) n st l ((p + b) % n) := by
  intro l
  induction l with
  | zero => intro p _; rfl
  | succ l ih =>
    intro p hp
    rw [rdF, rdF, ih _ (Nat.mod_lt _ hn)]
    congr 1
    rw [add_mod_r, add_mod_r]
    congr 1
    congr 1
    omega
theorem mean_rot {kd se : Nat → Nat} {n b p by_ : Nat} {f : Nat → Nat} (hn : 0 < n) (hp : p < n) : mean kd se (sm (rot n b f)) n p by_ = mean kd se (sm f) n ((p + b) % n) by_ := by
  unfold mean
  rw [rdF_rot hn _ _ hp]
theorem allM_rot {kd se : Nat → Nat} {n b by_ : Nat} {f : Nat → Nat} (hn : 0 < n) (hb : b < n) {m : Nat} (hm : m ≠ 16) : allM kd se (sm (rot n b f)) n by_ = m ↔ allM kd se (sm f) n by_ = m := by
  rw [allM_spec hn hm, allM_spec hn hm]
  constructor
  · intro h p hp
    have := h ((p + (n - b)) % n) (Nat.mod_lt _ hn)
    rw [mean_rot hn (Nat.mod_lt _ hn), add_mod_r, show p + (n - b) + b = p + n by omega, Nat.add_mod_right, Nat.mod_eq_of_lt hp] at this
    exact this
  · intro h p hp
    rw [mean_rot hn hp]
    exact h _ (Nat.mod_lt _ hn)
theorem rdF_congr {f g : Nat → Option Nat} {n st : Nat} (hn : 0 < n) (h : ∀ i, i < n → f i = g i) : ∀ l p, p < n → rdF f n st l p = rdF g n st l p := by
  intro l
  induction l with
  | zero => intro p _; rfl
  | succ l ih => intro p hp; rw [rdF, rdF, h p hp, ih _ (Nat.mod_lt _ hn)]
theorem mean_congr {kd se : Nat → Nat} {f g : Nat → Option Nat} {n p by_ : Nat} (hp : p < n) (h : ∀ i, i < n → f i = g i) : mean kd se f n p by_ = mean kd se g n p by_ := by
  unfold mean
  rw [rdF_congr (by omega) h _ _ hp]
theorem am_congr {f g : Nat → Nat} : ∀ l p one, (∀ q, p ≤ q → q < p + l → f q = g q) → am f l p one = am g l p one := by
  intro l
  induction l with
  | zero => intro p one _; rfl
  | succ l ih => intro p one h; rw [am, am, h p (by omega) (by omega), ih _ _ (fun q h1 h2 => h q (by omega) (by omega))]
theorem allM_congr {kd se : Nat → Nat} {f g : Nat → Option Nat} {n by_ : Nat} (h : ∀ i, i < n → f i = g i) : allM kd se f n by_ = allM kd se g n by_ := by
  unfold allM
  split
  · rfl
  · rw [mean_congr (by omega) h]
    exact am_congr _ _ _ (fun q h1 h2 => mean_congr (by omega) h)
/-! the two programs' looks at turnings -/
theorem tca_X_loop {N n1 n : Nat} {F : Nat → Int32} {f : Nat → Nat} {Φ : Int32 → Prop} (hn : n ≤ n1) (hn1 : n1 ≤ 90) (hR : RN n f F) (hf : ∀ i, i < n → f i < 100) :
    ∀ (l t i fuel : Nat), t < n → i + l = n → l < fuel → Φ (bI (tca f n l t i)) → lp_X5_turnComesAhead_5 N n1 (nI n) F Φ (fun x3 x4 => ex_X5_turnComesAhead_21 N n1 x3 x4 F Φ) fuel (nI t) (nI i) := by
  intro l
  induction l with
  | zero =>
    intro t i fuel ht hi hf h
    obtain ⟨z, rfl⟩ : ∃ z, fuel = z + 1 := ⟨fuel - 1, by omega⟩
    rw [lp_X5_turnComesAhead_5]
    exact br_t (nI_le (by omega) (by omega)) h
  | succ l ih =>
    intro t i fuel ht hi hfu h
    obtain ⟨z, rfl⟩ : ∃ z, fuel = z + 1 := ⟨fuel - 1, by omega⟩
    rw [lp_X5_turnComesAhead_5]
    have h1 := hf t ht
    have h2 := hf i (by omega)
    have v1 : vp_in (nI t) n1 := in_nI (by omega) (by omega)
    have v2 : vp_in (nI i) n1 := in_nI (by omega) (by omega)
    refine br_f (nI_ge (by omega) (by omega)) ⟨v1, v2, ?_⟩
    rw [nI_clamp (show t < 2 ^ 31 by omega), nI_clamp (show i < 2 ^ 31 by omega), hR t ht, hR i (by omega), nI_1, nI_1]
    rw [tca] at h
    by_cases e : f t = f i
    · rw [if_pos e] at h
      refine br_t (by rw [e]) ?_
      by_cases c : t + 1 = n
      · rw [c, Nat.mod_self] at h
        exact br_t (by rw [c]) (ih 0 (i + 1) z (by omega) (by omega) (by omega) h)
      · rw [Nat.mod_eq_of_lt (by omega)] at h
        exact br_f (fun y => c ((nI_eq (by omega) (by omega)).mp y)) (ih (t + 1) (i + 1) z (by omega) (by omega) (by omega) h)
    · rw [if_neg e] at h
      refine br_f (fun y => e ((nI_eq (by omega) (by omega)).mp y)) ?_
      unfold ex_X5_turnComesAhead_21
      refine ⟨v1, v2, ?_⟩
      rw [nI_clamp (show t < 2 ^ 31 by omega), nI_clamp (show i < 2 ^ 31 by omega), hR t ht, hR i (by omega)]
      by_cases c : f t < f i
      · rw [decide_eq_true c] at h
        exact br_f (nI_ge c (by omega)) h
      · rw [decide_eq_false c] at h
        exact br_t (nI_le (by omega) (by omega)) h
theorem ft_X {N n1 n : Nat} {F : Nat → Int32} {f : Nat → Nat} {Φ : Int32 → Prop} (hN : 100 < N) (hn0 : 0 < n) (hn : n ≤ n1) (hn1 : n1 ≤ 90) (hR : RN n f F) (hf : ∀ i, i < n → f i < 100) (h : Φ (bI (ft f n))) : wp_X5_isFirstOfTurns N n1 (nI n) F Φ := by
  unfold wp_X5_isFirstOfTurns
  have L : ∀ (l b fuel : Nat), b + l = n → l < fuel → 1 ≤ b → Φ (bI (ftL f n l b)) → lp_X5_isFirstOfTurns_2 N n1 (nI n) F Φ fuel (nI b) := by
    intro l
    induction l with
    | zero =>
      intro b fuel hb hfu _ h
      obtain ⟨z, rfl⟩ : ∃ z, fuel = z + 1 := ⟨fuel - 1, by omega⟩
      rw [lp_X5_isFirstOfTurns_2]
      exact br_t (nI_le (by omega) (by omega)) h
    | succ l ih =>
      intro b fuel hb hfu h1 h
      obtain ⟨z, rfl⟩ : ∃ z, fuel = z + 1 := ⟨fuel - 1, by omega⟩
      rw [lp_X5_isFirstOfTurns_2, nI_1]
      refine br_f (nI_ge (by omega) (by omega)) ?_
      unfold wp_X5_turnComesAhead
      refine tca_X_loop hn hn1 hR hf n b 0 N (by omega) (by omega) (by omega) ?_
      rw [ftL] at h
      cases e : tca f n n b 0 with
      | true => rw [e, if_pos rfl] at h; exact br_f (by decide) h
      | false => rw [e, if_neg (by simp)] at h; exact br_t rfl (ih (b + 1) z (by omega) (by omega) (by omega) h)
  exact L (n - 1) 1 N (by omega) (by omega) (Nat.le_refl 1) h
theorem ft_M {N n : Nat} {F : Nat → Int32} {f : Nat → Nat} {Φ : Int32 → Prop} (hN : 100 < N) (hn0 : 0 < n) (hn : n ≤ 6) (hR : RN n f F) (hf : ∀ i, i < n → f i < 100) (h : Φ (bI (ft f n))) : wp_X12_isFirstTurned N (nI n) F Φ := by
  unfold wp_X12_isFirstTurned
  have em : ∀ i b : Nat, i < 100 → b < 100 → (nI i + nI b) - (nI i + nI b) / nI n * nI n = nI ((i + b) % n) := fun i b h1 h2 => by rw [nI_add]; exact pk_rem (by omega) hn0 (by omega)
  have K : ∀ (b : Nat) (r : Int32 → Prop), b < n → ∀ (l i fuel : Nat), i + l = n → l < fuel → ((tca f n l ((i + b) % n) i = true → Φ 0) ∧ (tca f n l ((i + b) % n) i = false → r (nI (b + 1)))) → lp_X12_isFirstTurned_9 N (nI n) (nI b) F Φ (fun x3 => ex_X12_isFirstTurned_39 N (nI n) (nI b) x3 F Φ r) fuel (nI i) := by
    intro b r hb l
    induction l with
    | zero =>
      intro i fuel hi hfu hh
      obtain ⟨z, rfl⟩ : ∃ z, fuel = z + 1 := ⟨fuel - 1, by omega⟩
      rw [lp_X12_isFirstTurned_9]
      refine br_t (nI_le (by omega) (by omega)) ?_
      unfold ex_X12_isFirstTurned_39
      rw [nI_1]
      exact br_t (nI_le (by omega) (by omega)) (hh.2 rfl)
    | succ l ih =>
      intro i fuel hi hfu hh
      obtain ⟨z, rfl⟩ : ∃ z, fuel = z + 1 := ⟨fuel - 1, by omega⟩
      rw [lp_X12_isFirstTurned_9, em i b (by omega) (by omega)]
      have hq : (i + b) % n < n := Nat.mod_lt _ hn0
      have v1 : vp_in (nI ((i + b) % n)) 6 := in_nI (by omega) (by omega)
      have v2 : vp_in (nI i) 6 := in_nI (by omega) (by omega)
      have h1 := hf _ hq
      have h2 := hf i (by omega)
      have en : ¬ nI n = 0 := nI_ne0 hn0 (by omega)
      refine br_f (nI_ge (by omega) (by omega)) ⟨en, v1, v2, ?_⟩
      rw [nI_clamp (show (i + b) % n < 2 ^ 31 by omega), nI_clamp (show i < 2 ^ 31 by omega), hR _ hq, hR i (by omega), nI_1]
      rw [tca] at hh
      by_cases e : f ((i + b) % n) = f i
      · rw [if_pos e] at hh
        have e2 : ((i + b) % n + 1) % n = (i + 1 + b) % n := by rw [add_mod_r]; congr 1; omega
        rw [e2] at hh
        exact br_t (by rw [e]) (ih (i + 1) z (by omega) (by omega) hh)
      · rw [if_neg e] at hh
        refine br_f (fun y => e ((nI_eq (by omega) (by omega)).mp y)) ?_
        unfold ex_X12_isFirstTurned_39
        rw [em i b (by omega) (by omega)]
        refine br_f (nI_ge (by omega) (by omega)) ⟨en, v1, v2, ?_⟩
        rw [nI_clamp (show (i + b) % n < 2 ^ 31 by omega), nI_clamp (show i < 2 ^ 31 by omega), hR _ hq, hR i (by omega), nI_1]
        by_cases c : f ((i + b) % n) < f i
        · exact br_f (nI_ge c (by omega)) (hh.1 (decide_eq_true c))
        · exact br_t (nI_le (by omega) (by omega)) (hh.2 (decide_eq_false c))
  have L : ∀ (l b fuel : Nat), b + l = n → l < fuel → 1 ≤ b → Φ (bI (ftL f n l b)) → lp_X12_isFirstTurned_2 N (nI n) F Φ fuel (nI b) := by
    intro l
    induction l with
    | zero =>
      intro b fuel hb hfu _ h
      obtain ⟨z, rfl⟩ : ∃ z, fuel = z + 1 := ⟨fuel - 1, by omega⟩
      rw [lp_X12_isFirstTurned_2]
      exact br_t (nI_le (by omega) (by omega)) h
    | succ l ih =>
      intro b fuel hb hfu h1 h
      obtain ⟨z, rfl⟩ : ∃ z, fuel = z + 1 := ⟨fuel - 1, by omega⟩
      rw [lp_X12_isFirstTurned_2]
      refine br_f (nI_ge (by omega) (by omega)) (K b _ (by omega) n 0 N (by omega) (by omega) ?_)
      rw [Nat.zero_add, Nat.mod_eq_of_lt (show b < n by omega)]
      rw [ftL] at h
      refine ⟨fun e => ?_, fun e => ?_⟩
      · rw [e, if_pos rfl] at h; exact h
      · rw [e, if_neg (by simp)] at h; exact ih (b + 1) z (by omega) (by omega) (by omega) h
  exact L (n - 1) 1 N (by omega) (by omega) (Nat.le_refl 1) h
