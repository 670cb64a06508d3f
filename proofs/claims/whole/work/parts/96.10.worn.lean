/-! WORN: fillings of the blanks -/
def bk (rg : Nat → Option Nat) : Nat → Nat
  | 0 => 0
  | i + 1 => bk rg i + (if (rg i).isNone then 1 else 0)
def flR (rg : Nat → Option Nat) (f : Nat → Nat) : Nat → Nat := fun i => match rg i with
  | none => f (bk rg i)
  | some v => v
theorem bk_mono {rg : Nat → Option Nat} : ∀ {i j : Nat}, i ≤ j → bk rg i ≤ bk rg j := by
  intro i j h
  induction j with
  | zero => rw [show i = 0 by omega]; exact Nat.le_refl _
  | succ j ih =>
    rcases Nat.eq_or_lt_of_le h with rfl | h
    · exact Nat.le_refl _
    · rw [bk]; have := ih (by omega); omega
theorem bk_none {rg : Nat → Option Nat} {i : Nat} (h : rg i = none) : bk rg (i + 1) = bk rg i + 1 := by rw [bk, h]; rfl
theorem bk_some {rg : Nat → Option Nat} {i v : Nat} (h : rg i = some v) : bk rg (i + 1) = bk rg i := by rw [bk, h]; rfl
theorem bk_lt {rg : Nat → Option Nat} {i j : Nat} (h : i < j) (hi : rg i = none) : bk rg i < bk rg j := by
  have := bk_mono (rg := rg) (show i + 1 ≤ j by omega)
  rw [bk_none hi] at this
  omega
theorem bk_surj {rg : Nat → Option Nat} : ∀ n k, k < bk rg n → ∃ q, q < n ∧ rg q = none ∧ bk rg q = k := by
  intro n
  induction n with
  | zero => intro k h; rw [bk] at h; omega
  | succ n ih =>
    intro k h
    cases e : rg n with
    | none =>
      rw [bk_none e] at h
      rcases Nat.lt_or_ge k (bk rg n) with h1 | h1
      · obtain ⟨q, a, b, c⟩ := ih k h1; exact ⟨q, by omega, b, c⟩
      · exact ⟨n, by omega, e, by omega⟩
    | some v =>
      rw [bk_some e] at h
      obtain ⟨q, a, b, c⟩ := ih k h; exact ⟨q, by omega, b, c⟩
def prW (g f : Nat → Nat) : Nat → Nat
  | 0 => 1
  | k + 1 => prW g f k * g (f k)
theorem prW_le {g f : Nat → Nat} {b : Nat} (hg : ∀ k, k < b → g (f k) ≤ 9) : ∀ k, k ≤ b → prW g f k ≤ 9 ^ k := by
  intro k
  induction k with
  | zero => intro _; exact Nat.le_refl _
  | succ k ih =>
    intro hk
    rw [prW, Nat.pow_succ]
    exact Nat.mul_le_mul (ih (by omega)) (hg k (by omega))
def better (o : Option Nat) (p : Nat) : Bool := match o with
  | none => true
  | some q => decide (q < p)
def wBest (ok : Nat → Bool) (pr : Nat → Nat) : Nat → Option Nat
  | 0 => none
  | j + 1 => if ok j && better (wBest ok pr j) (pr j) then some (pr j) else wBest ok pr j
def wFill (ok : Nat → Bool) (pr : Nat → Nat) (fb : Nat → Nat → Nat) : Nat → (Nat → Nat)
  | 0 => fun _ => 0
  | j + 1 => if ok j && better (wBest ok pr j) (pr j) then fb j else wFill ok pr fb j
def wSeen (ok : Nat → Bool) (fr : Nat → Nat → Nat) : Nat → Nat → Nat
  | 0, _ => 0
  | j + 1, p => if ok j then wSeen ok fr j p ||| 2 ^ fr j p else wSeen ok fr j p
def RWS (ok : Nat → Bool) (pr : Nat → Nat) (fb fr : Nat → Nat → Nat) (n b j : Nat) (many best : Int32) (bestFill seen : Nat → Int32) : Prop :=
  many = nI (cnt ok j) ∧ best = ansO (wBest ok pr j) ∧ ((wBest ok pr j).isSome = true → ∀ i, i < b → bestFill i = nI (wFill ok pr fb j i)) ∧ ∀ p, p < n → seen p = nI (wSeen ok fr j p) ∧ wSeen ok fr j p < 64
theorem ansO_le {p : Nat} {o : Option Nat} (hp : p < 10000) (ho : ∀ q, o = some q → q < 10000) : nI p ≤ ansO o ↔ better o p = false := by
  cases o with
  | none =>
    refine ⟨fun h => ?_, fun h => by cases h⟩
    have h1 := Int32.le_iff_toInt_le.mp h
    rw [nI_toInt (by omega)] at h1
    have h2 : (ansO none).toInt = -9 := by decide
    rw [h2] at h1
    omega
  | some q =>
    have hq := ho q rfl
    show nI p ≤ nI q ↔ decide (q < p) = false
    rw [nI_leI (by omega) (by omega), decide_eq_false_iff_not]
    omega
theorem wBest_lt {ok : Nat → Bool} {pr : Nat → Nat} (hp : ∀ j, pr j < 10000) : ∀ j q, wBest ok pr j = some q → q < 10000 := by
  intro j
  induction j with
  | zero => intro q h; cases h
  | succ j ih =>
    intro q h
    rw [wBest] at h
    split at h
    · cases h; exact hp j
    · exact ih q h
theorem RWS_0 {ok : Nat → Bool} {pr : Nat → Nat} {fb fr : Nat → Nat → Nat} {n b : Nat} {bestFill seen : Nat → Int32} (h : ∀ p, p < n → seen p = 0) : RWS ok pr fb fr n b 0 0 (-9) bestFill seen := ⟨rfl, rfl, (fun h => by cases h), fun p hp => ⟨h p hp, by show 0 < 64; omega⟩⟩
theorem RWS_skip {ok : Nat → Bool} {pr : Nat → Nat} {fb fr : Nat → Nat → Nat} {n b j : Nat} {many best : Int32} {bestFill seen : Nat → Int32} (hk : ok j = false) (h : RWS ok pr fb fr n b j many best bestFill seen) : RWS ok pr fb fr n b (j + 1) many best bestFill seen := by
  obtain ⟨a, b', c, d⟩ := h
  refine ⟨?_, ?_, ?_, fun p hp => ?_⟩
  · rw [cnt, hk]; exact a
  · rw [wBest, hk]; exact b'
  · rw [wBest, wFill, hk]; exact c
  · rw [wSeen, hk]; exact d p hp
/-- a filling that is read as wished, noted -/
theorem RWS_add {ok : Nat → Bool} {pr : Nat → Nat} {fb fr : Nat → Nat → Nat} {n b j : Nat} {many best : Int32} {bestFill seen seen' : Nat → Int32} (hk : ok j = true) (hp : ∀ j, pr j < 10000) (hfr : ∀ p, p < n → fr j p < 6) (h : RWS ok pr fb fr n b j many best bestFill seen) (hs : ∀ p, p < n → seen' p = seen p ||| nI (2 ^ fr j p)) :
    (nI (pr j) ≤ best → RWS ok pr fb fr n b (j + 1) (many + 1) best bestFill seen') ∧ (¬ nI (pr j) ≤ best → ∀ bf : Nat → Int32, (∀ i, i < b → bf i = nI (fb j i)) → RWS ok pr fb fr n b (j + 1) (many + 1) (nI (pr j)) bf seen') := by
  obtain ⟨a, b', c, d⟩ := h
  have hle := ansO_le (o := wBest ok pr j) (hp j) (wBest_lt hp j)
  have hm : many + 1 = nI (cnt ok (j + 1)) := by rw [a, nI_1, cnt, hk]; rfl
  have hsn : ∀ p, p < n → seen' p = nI (wSeen ok fr (j + 1) p) ∧ wSeen ok fr (j + 1) p < 64 := by
    intro p hp'
    obtain ⟨d1, d2⟩ := d p hp'
    have h6 := hfr p hp'
    have hpw : 2 ^ fr j p < 2 ^ 6 := Nat.pow_lt_pow_right (by omega) h6
    rw [wSeen, hk]
    refine ⟨?_, or_bound (k := 6) d2 h6⟩
    rw [hs p hp', d1, nI_or _ _ (by omega) (by omega)]
    rfl
  constructor
  · intro hb
    rw [b'] at hb
    have e := hle.mp hb
    exact ⟨hm, by rw [wBest, e, hk]; exact b', by rw [wBest, wFill, e, hk]; exact c, hsn⟩
  · intro hb bf hbf
    rw [b'] at hb
    have e : better (wBest ok pr j) (pr j) = true := by
      cases e : better (wBest ok pr j) (pr j) with
      | true => rfl
      | false => exact absurd (hle.mpr e) hb
    exact ⟨hm, by rw [wBest, e, hk]; rfl, by rw [wBest, wFill, e, hk]; exact fun _ => hbf, hsn⟩
/-! the class -/
theorem fh_X {N n : Nat} {rg : Nat → Option Nat} {has : Nat → Int32} {Φ : Int32 → (Nat → Int32) → (Nat → Int32) → Prop} (hn : n ≤ 12) (hb : bk rg n ≤ 4) (hr : ∀ i, i < n → has i = ow (rg i)) (hv : ∀ i, i < n → ∀ v, rg i = some v → v < 6)
    (hΦ : ∀ whole holes, (∀ i, i < n → whole i = ow (rg i)) → (∀ i, i < n → rg i = none → holes (bk rg i) = nI i) → Φ (nI (bk rg n)) whole holes) :
    ∀ (l i fuel : Nat) (whole holes : Nat → Int32), i + l = n → l < fuel → (∀ q, q < i → whole q = ow (rg q)) → (∀ q, q < i → rg q = none → holes (bk rg q) = nI q) → lp_X10_findHoles_7 N (nI n) has Φ fuel (nI i) (nI (bk rg i)) whole holes := by
  intro l
  induction l with
  | zero =>
    intro i fuel whole holes hi hf h1 h2
    obtain ⟨z, rfl⟩ : ∃ z, fuel = z + 1 := ⟨fuel - 1, by omega⟩
    rw [lp_X10_findHoles_7]
    obtain rfl : i = n := by omega
    exact br_t (nI_le (by omega) (by omega)) (hΦ whole holes h1 h2)
  | succ l ih =>
    intro i fuel whole holes hi hf h1 h2
    obtain ⟨z, rfl⟩ : ∃ z, fuel = z + 1 := ⟨fuel - 1, by omega⟩
    have v12 : vp_in (nI i) 12 := in_nI (by omega) (by omega)
    have hbi := bk_mono (rg := rg) (show i ≤ n by omega)
    rw [lp_X10_findHoles_7, nI_clamp (show i < 2 ^ 31 by omega), hr i (by omega), nI_1]
    refine br_f (nI_ge (by omega) (by omega)) ⟨v12, v12, v12, ?_⟩
    have hw : ∀ q, q < i + 1 → upd whole i (ow (rg i)) q = ow (rg q) := by
      intro q hq
      by_cases e : q = i
      · subst e; exact pk_us
      · rw [pk_un e]; exact h1 q (by omega)
    cases e : rg i with
    | none =>
      have hlt := bk_lt (rg := rg) (show i < n by omega) e
      rw [e] at hw
      refine br_t rfl (br_f (nI_ge (a := bk rg i) (b := 4) (by omega) (by omega)) ⟨in_nI (by omega) (by omega), ?_⟩)
      rw [nI_clamp (show bk rg i < 2 ^ 31 by omega), nI_1, ← bk_none e]
      refine ih (i + 1) z _ _ (by omega) (by omega) hw (fun q hq hqn => ?_)
      by_cases e2 : q = i
      · subst e2; exact pk_us
      · have := bk_lt (rg := rg) (show q < i by omega) hqn
        rw [pk_un (by omega)]; exact h2 q (by omega) hqn
    | some v =>
      have hv6 := hv i (by omega) v e
      rw [e] at hw
      refine br_f (nI_m1 (show v < 2 ^ 31 by omega)) ?_
      rw [← bk_some e]
      refine ih (i + 1) z _ _ (by omega) (by omega) hw (fun q hq hqn => ?_)
      by_cases e2 : q = i
      · subst e2; rw [e] at hqn; cases hqn
      · exact h2 q (by omega) hqn
theorem fw_X {N n : Nat} {rg : Nat → Option Nat} {holes fill : Nat → Int32} {f : Nat → Nat} {Φ : Int32 → Int32 → Int32 → Int32 → (Nat → Int32) → (Nat → Int32) → (Nat → Int32) → (Nat → Int32) → (Nat → Int32) → Prop} {k : (Nat → Int32) → Prop} (hn : n ≤ 12) (hb : bk rg n ≤ 4) (hh : ∀ i, i < n → rg i = none → holes (bk rg i) = nI i) (hf : RN (bk rg n) f fill)
    (hk : ∀ whole, (∀ i, i < n → whole i = nI (flR rg f i)) → k whole) :
    ∀ (l c fuel : Nat) (whole : Nat → Int32), c + l = bk rg n → l < fuel → (∀ i, i < n → ∀ v, rg i = some v → whole i = nI v) → (∀ i, i < n → rg i = none → bk rg i < c → whole i = nI (f (bk rg i))) → lp_X10_seek_62 N (nI (bk rg n)) holes fill Φ k fuel (nI c) whole := by
  intro l
  induction l with
  | zero =>
    intro c fuel whole hc hfu h1 h2
    obtain ⟨z, rfl⟩ : ∃ z, fuel = z + 1 := ⟨fuel - 1, by omega⟩
    rw [lp_X10_seek_62]
    refine br_t (nI_le (by omega) (by omega)) (hk whole (fun i hi => ?_))
    unfold flR
    cases e : rg i with
    | none => exact h2 i hi e (by have := bk_lt (rg := rg) hi e; omega)
    | some v => exact h1 i hi v e
  | succ l ih =>
    intro c fuel whole hc hfu h1 h2
    obtain ⟨z, rfl⟩ : ∃ z, fuel = z + 1 := ⟨fuel - 1, by omega⟩
    obtain ⟨q, hq, hqn, hqc⟩ := bk_surj (rg := rg) n c (by omega)
    have hhq := hh q hq hqn
    rw [hqc] at hhq
    have v4 : vp_in (nI c) 4 := in_nI (by omega) (by omega)
    rw [lp_X10_seek_62, nI_clamp (show c < 2 ^ 31 by omega), hhq, nI_clamp (show q < 2 ^ 31 by omega), nI_1, hf c (by omega)]
    refine br_f (nI_ge (by omega) (by omega)) ⟨v4, v4, in_nI (by omega) (by omega), ih (c + 1) z _ (by omega) (by omega) (fun i hi v hv => ?_) (fun i hi hin hic => ?_)⟩
    · rw [pk_un (fun e => by subst e; rw [hqn] at hv; cases hv)]; exact h1 i hi v hv
    · by_cases e : i = q
      · subst e; rw [pk_us, hqc]
      · rw [pk_un e]
        refine h2 i hi hin ?_
        rcases Nat.lt_trichotomy i q with h | h | h
        · have := bk_lt (rg := rg) h hin; omega
        · exact absurd h e
        · have := bk_lt (rg := rg) h hqn; omega
/-- the words seen at each place, as bits -/
theorem sn_X {N n : Nat} {g : Nat → Nat} {whole seen0 : Nat → Int32} {Φ : Int32 → Int32 → (Nat → Int32) → (Nat → Int32) → Prop} {k : (Nat → Int32) → Prop} (hn : n ≤ 12) (hw : ∀ i, i < n → whole i = nI (g i) ∧ g i < 6) (hk : ∀ seen, (∀ p, p < n → seen p = seen0 p ||| nI (2 ^ g p)) → k seen) :
    ∀ (l i fuel : Nat) (seen : Nat → Int32), i + l = n → l < fuel → (∀ p, p < i → seen p = seen0 p ||| nI (2 ^ g p)) → (∀ p, i ≤ p → seen p = seen0 p) → lp_X10_note_12 N (nI n) whole Φ k fuel (nI i) seen := by
  intro l
  induction l with
  | zero =>
    intro i fuel seen hi hf h1 h2
    obtain ⟨z, rfl⟩ : ∃ z, fuel = z + 1 := ⟨fuel - 1, by omega⟩
    rw [lp_X10_note_12]
    exact br_t (nI_le (by omega) (by omega)) (hk seen (fun p hp => h1 p (by omega)))
  | succ l ih =>
    intro i fuel seen hi hf h1 h2
    obtain ⟨z, rfl⟩ : ∃ z, fuel = z + 1 := ⟨fuel - 1, by omega⟩
    obtain ⟨w1, w2⟩ := hw i (by omega)
    have v12 : vp_in (nI i) 12 := in_nI (by omega) (by omega)
    rw [lp_X10_note_12, nI_clamp (show i < 2 ^ 31 by omega), w1, sh1 _ (by omega), nI_1, h2 i (Nat.le_refl i)]
    refine br_f (nI_ge (by omega) (by omega)) ⟨v12, v12, v12, ih (i + 1) z _ (by omega) (by omega) (fun p hp => ?_) (fun p hp => ?_)⟩
    · by_cases e : p = i
      · subst e; exact pk_us
      · rw [pk_un e]; exact h1 p (by omega)
    · rw [pk_un (by omega)]; exact h2 p (by omega)
theorem pr_X {N b : Nat} {g f : Nat → Nat} {fill weights : Nat → Int32} {Φ : Int32 → Int32 → (Nat → Int32) → (Nat → Int32) → Prop} {k : Int32 → Prop} (hb : b ≤ 4) (hf : RN b f fill) (hd : ∀ i, i < b → f i < 6 ∧ weights (f i) = nI (g (f i))) (hk : k (nI (prW g f b))) :
    ∀ (l i fuel : Nat), i + l = b → l < fuel → lp_X10_note_45 N (nI b) fill weights Φ k fuel (nI (prW g f i)) (nI i) := by
  intro l
  induction l with
  | zero =>
    intro i fuel hi hfu
    obtain ⟨z, rfl⟩ : ∃ z, fuel = z + 1 := ⟨fuel - 1, by omega⟩
    rw [lp_X10_note_45]
    refine br_t (nI_le (by omega) (by omega)) ?_
    rw [show i = b by omega]; exact hk
  | succ l ih =>
    intro i fuel hi hfu
    obtain ⟨z, rfl⟩ : ∃ z, fuel = z + 1 := ⟨fuel - 1, by omega⟩
    obtain ⟨d1, d2⟩ := hd i (by omega)
    have ih' := ih (i + 1) z (by omega) (by omega)
    rw [prW] at ih'
    rw [lp_X10_note_45, nI_clamp (show i < 2 ^ 31 by omega), hf i (by omega), nI_clamp (show f i < 2 ^ 31 by omega), d2, pk_mul, nI_1]
    exact br_f (nI_ge (by omega) (by omega)) ⟨in_nI (by omega) (by omega), in_nI (by omega) (by omega), ih'⟩
/-- WORN as it must be: all fillings gone through -/
def okW (kd se rk re rw : Nat → Nat) (w r n : Nat) (rg : Nat → Option Nat) (j : Nat) : Bool := (against kd se rk re rw (sm (flR rg (itR w (bk rg n) j))) n r).isNone
def WN (kd se gw rk re rw : Nat → Nat) (w r n : Nat) (rg : Nat → Option Nat) (j : Nat) (many best : Int32) (bestFill seen : Nat → Int32) : Prop :=
  RWS (okW kd se rk re rw w r n rg) (fun j => prW gw (itR w (bk rg n) j) (bk rg n)) (fun j => itR w (bk rg n) j) (fun j => flR rg (itR w (bk rg n) j)) n (bk rg n) j many best bestFill seen
theorem fl_lt {w n : Nat} {rg : Nat → Option Nat} {f : Nat → Nat} (hf : ∀ i, i < bk rg n → f i < w) (hv : ∀ i, i < n → ∀ v, rg i = some v → v < w) : ∀ i, i < n → flR rg f i < w := by
  intro i hi
  unfold flR
  cases e : rg i with
  | none => exact hf _ (bk_lt hi e)
  | some v => exact hv i hi v e
theorem prW_lt {w b : Nat} {gw : Nat → Nat} (hw0 : 0 < w) (hb : b ≤ 4) (hg : ∀ v, v < w → gw v ≤ 9) : ∀ j, prW gw (itR w b j) b < 10000 := by
  intro j
  have h1 := prW_le (g := gw) (f := itR w b j) (b := b) (fun k hk => hg _ (it_dig hw0 j k hk)) b (Nat.le_refl b)
  have h2 : 9 ^ b ≤ 9 ^ 4 := Nat.pow_le_pow_right (by omega) hb
  omega
theorem worn_loop {N w r n : Nat} {kd se gw rk re rw : Nat → Nat} {rg : Nat → Option Nat} {kinds sets weights readers eighths wishes holes : Nat → Int32} {Φ : Int32 → Int32 → Int32 → Int32 → (Nat → Int32) → (Nat → Int32) → (Nat → Int32) → (Nat → Int32) → (Nat → Int32) → Prop} {x0 : Int32} (hN : 8000 < N) (hK : KS w kd se kinds sets) (hD : RD r rk re rw readers eighths wishes) (hg : ∀ v, v < w → weights v = nI (gw v) ∧ gw v ≤ 9) (hn : n ≤ 12) (hb1 : 1 ≤ bk rg n) (hb : bk rg n ≤ 4) (hv : ∀ i, i < n → ∀ v, rg i = some v → v < w)
    (hh : ∀ i, i < n → rg i = none → holes (bk rg i) = nI i) (hΦ : ∀ many best bestFill seen whole fill, WN kd se gw rk re rw w r n rg (w ^ bk rg n) many best bestFill seen → Φ 1 (nI (bk rg n)) many best bestFill seen whole holes fill) :
    ∀ (l j fuel : Nat) (many best : Int32) (bestFill seen whole fill : Nat → Int32), j + l = w ^ bk rg n → l < fuel → RN (bk rg n) (itR w (bk rg n) j) fill → (∀ i, i < n → ∀ v, rg i = some v → whole i = nI v) → WN kd se gw rk re rw w r n rg j many best bestFill seen → lp_X10_seek_55 N x0 (nI (bk rg n)) holes (nI w) (nI r) kinds sets weights readers eighths wishes (nI n) Φ fuel (nI l) many best bestFill seen whole fill := by
  have hw := hK.1
  have hp := pow6 hw (show bk rg n ≤ 5 by omega)
  intro l
  induction l with
  | zero =>
    intro j fuel many best bestFill seen whole fill hj hf hR hwh hW
    obtain ⟨z, rfl⟩ : ∃ z, fuel = z + 1 := ⟨fuel - 1, by omega⟩
    rw [lp_X10_seek_55]
    refine br_t (by decide) (hΦ _ _ _ _ _ _ ?_)
    rw [show w ^ bk rg n = j by omega]; exact hW
  | succ l ih =>
    intro j fuel many best bestFill seen whole fill hj hf hR hwh hW
    obtain ⟨z, rfl⟩ : ∃ z, fuel = z + 1 := ⟨fuel - 1, by omega⟩
    have hw0 : 0 < w := by
      rcases Nat.eq_zero_or_pos w with e | e
      · subst e; rw [Nat.zero_pow (by omega)] at hj; omega
      · exact e
    have hd : ∀ i, i < bk rg n → itR w (bk rg n) j i < w := fun i hi => it_dig hw0 j i hi
    have hfl := fl_lt (f := itR w (bk rg n) j) hd hv
    rw [lp_X10_seek_55]
    refine br_f (nI_nle (by omega) (by omega)) ?_
    refine fw_X hn hb hh hR (fun whole' hw' => ?_) (bk rg n) 0 N whole (by omega) (by omega) hwh (fun i _ _ hc => by omega)
    unfold ex_X10_seek_96
    rw [pk_m1]
    have hRW : RW w n 12 (sm (flR rg (itR w (bk rg n) j))) whole' := RW_sm hn (by omega) hw' hfl
    have hkeep : ∀ i, i < n → ∀ v, rg i = some v → whole' i = nI v := fun i hi v hv' => by rw [hw' i hi]; unfold flR; rw [hv']
    refine fa_X (by omega) hK hRW hD ?_
    have hiff := ansO_none _ (against_lt (kd := kd) (se := se) (rk := rk) (re := re) (rw := rw) (row := sm (flR rg (itR w (bk rg n) j))) (n := n) hD.1)
    cases e : okW kd se rk re rw w r n rg j with
    | false =>
      refine br_f (fun y => by rw [show okW kd se rk re rw w r n rg j = true from hiff.mp y] at e; cases e) ?_
      exact step_X (by omega) hb (by omega) hw hR hd (fun F' hF' => ih (j + 1) z _ _ _ _ _ _ (by omega) (by omega) hF' hkeep (RWS_skip e hW))
    | true =>
      refine br_t (hiff.mpr e) ?_
      unfold wp_X10_note
      refine sn_X (g := flR rg (itR w (bk rg n) j)) (seen0 := seen) hn (fun i hi => ⟨hw' i hi, by have := hfl i hi; omega⟩) (fun seen' hs' => ?_) n 0 N seen (by omega) (by omega) (fun p hp => by omega) (fun p _ => rfl)
      unfold ex_X10_note_40
      refine pr_X (g := gw) hb hR (fun i hi => ⟨by have := hd i hi; omega, (hg _ (hd i hi)).1⟩) ?_ (bk rg n) 0 N (by omega) (by omega)
      unfold ex_X10_note_75
      have hadd := RWS_add (fb := fun j => itR w (bk rg n) j) (fr := fun j => flR rg (itR w (bk rg n) j)) e (prW_lt hw0 hb (fun v hv => (hg v hv).2)) (fun p hp => by have := hfl p hp; omega) hW hs'
      have c0 : (0 : Int32).toNatClampNeg = 0 := by decide
      refine br_c (fun c => ?_) (fun c => ⟨nI_pos (by omega), ?_, ?_, ?_⟩)
      · exact step_X (by omega) hb (by omega) hw hR hd (fun F' hF' => ih (j + 1) z _ _ _ _ _ _ (by omega) (by omega) hF' hkeep (hadd.1 c))
      · rw [c0, nI_clamp (by omega)]; omega
      · rw [c0, nI_clamp (by omega)]; omega
      · refine step_X (by omega) hb (by omega) hw hR hd (fun F' hF' => ih (j + 1) z _ _ _ _ _ _ (by omega) (by omega) hF' hkeep (hadd.2 c _ (fun i hi => ?_)))
        rw [c0, nI_clamp (show bk rg n < 2 ^ 31 by omega), pk_cpy_in (by omega) (by omega), show 0 + (i - 0) = i by omega]
        exact hR i hi
theorem worn_X {N w r n : Nat} {kd se gw rk re rw : Nat → Nat} {rg : Nat → Option Nat} {kinds sets weights readers eighths wishes has : Nat → Int32} {known blanks many best : Int32} {bestFill seen whole holes fill : Nat → Int32} {Φ : Int32 → Int32 → Int32 → Int32 → (Nat → Int32) → (Nat → Int32) → (Nat → Int32) → (Nat → Int32) → (Nat → Int32) → Prop} (hN : 8000 < N) (hK : KS w kd se kinds sets) (hD : RD r rk re rw readers eighths wishes) (hg : ∀ v, v < w → weights v = nI (gw v) ∧ gw v ≤ 9) (hn : n ≤ 12) (hb1 : 1 ≤ bk rg n) (hb : bk rg n ≤ 4) (hr : ∀ i, i < n → has i = ow (rg i)) (hv : ∀ i, i < n → ∀ v, rg i = some v → v < w)
    (hk : known = 0 ∨ (known = 1 ∧ blanks = nI (bk rg n) ∧ WN kd se gw rk re rw w r n rg (w ^ bk rg n) many best bestFill seen)) (hΦ : ∀ many best bestFill seen whole holes fill, WN kd se gw rk re rw w r n rg (w ^ bk rg n) many best bestFill seen → Φ 1 (nI (bk rg n)) many best bestFill seen whole holes fill) : wp_X10_seek N known blanks many best bestFill seen whole holes fill (nI w) (nI r) kinds sets weights readers eighths wishes (nI n) has Φ := by
  have hw := hK.1
  have hp := pow6 hw (show bk rg n ≤ 5 by omega)
  unfold wp_X10_seek
  rcases hk with rfl | ⟨rfl, rfl, hW⟩
  · refine br_t rfl (fill_J (by omega) (by omega) (fun seen' hs' => ?_))
    unfold wp_X10_findHoles
    refine fh_X hn hb hr (fun i hi v hv' => by have := hv i hi v hv'; omega) (fun whole' holes' h1 h2 => ?_) n 0 N whole holes (by omega) (by omega) (fun q hq => by omega) (fun q hq => by omega)
    refine begin_X (by omega) hb (by omega) (fun F' hF' => many_X (by omega) (by omega) ?_)
    exact worn_loop hN hK hD hg hn hb1 hb hv h2 (fun many best bestFill seen whole fill h => hΦ _ _ _ _ _ _ _ h) (w ^ bk rg n) 0 N 0 (-9) bestFill seen' whole' F' (by omega) (by omega) hF' (fun i hi v hv' => by rw [h1 i hi, hv']; rfl) (RWS_0 (fun p hp => hs' p (by omega)))
  · exact br_f (by decide) (hΦ _ _ _ _ _ _ _ hW)
/-! the reference -/
theorem fi_M {N n : Nat} {rg : Nat → Option Nat} {g f : Nat → Nat} {weight ring trial : Nat → Int32} {Φ : Int32 → Int32 → (Nat → Int32) → (Nat → Int32) → (Nat → Int32) → (Nat → Int32) → Prop} {k : Int32 → (Nat → Int32) → Prop} (hn : n ≤ 12) (hb : bk rg n ≤ 4) (hr : ∀ i, i < n → ring i = ow (rg i)) (hv : ∀ i, i < n → ∀ v, rg i = some v → v < 6) (hf : RN (bk rg n) f trial) (hd : ∀ i, i < bk rg n → f i < 6 ∧ weight (f i) = nI (g (f i)))
    (hk : ∀ filled, (∀ i, i < n → filled i = nI (flR rg f i)) → k (nI (prW g f (bk rg n))) filled) :
    ∀ (l i fuel : Nat) (filled : Nat → Int32), i + l = n → l < fuel → (∀ q, q < i → filled q = nI (flR rg f q)) → lp_X12_fill_52 N (nI n) weight ring trial Φ k fuel (nI (bk rg i)) (nI (prW g f (bk rg i))) (nI i) filled := by
  intro l
  induction l with
  | zero =>
    intro i fuel filled hi hfu h1
    obtain ⟨z, rfl⟩ : ∃ z, fuel = z + 1 := ⟨fuel - 1, by omega⟩
    rw [lp_X12_fill_52]
    obtain rfl : i = n := by omega
    exact br_t (nI_le (by omega) (by omega)) (hk filled h1)
  | succ l ih =>
    intro i fuel filled hi hfu h1
    obtain ⟨z, rfl⟩ : ∃ z, fuel = z + 1 := ⟨fuel - 1, by omega⟩
    have v12 : vp_in (nI i) 12 := in_nI (by omega) (by omega)
    have hbi := bk_mono (rg := rg) (show i ≤ n by omega)
    rw [lp_X12_fill_52, nI_clamp (show i < 2 ^ 31 by omega), hr i (by omega), nI_1 i, nI_clamp (show bk rg i < 2 ^ 31 by omega)]
    refine br_f (nI_ge (by omega) (by omega)) ⟨v12, v12, v12, ?_⟩
    cases e : rg i with
    | none =>
      have hlt := bk_lt (rg := rg) (show i < n by omega) e
      obtain ⟨d1, d2⟩ := hd _ hlt
      have v6 : vp_in (nI (bk rg i)) 6 := in_nI (by omega) (by omega)
      refine br_t rfl ?_
      rw [hf _ hlt, nI_clamp (show f (bk rg i) < 2 ^ 31 by omega), d2, pk_mul, nI_1, ← bk_none e]
      have ep : prW g f (bk rg i) * g (f (bk rg i)) = prW g f (bk rg (i + 1)) := by rw [bk_none e, prW]
      rw [ep]
      refine ⟨v6, v12, v6, in_nI (by omega) (by omega), ih (i + 1) z _ (by omega) (by omega) (fun q hq => ?_)⟩
      by_cases e2 : q = i
      · subst e2; rw [pk_us]; unfold flR; rw [e]
      · rw [pk_un e2, pk_un e2]; exact h1 q (by omega)
    | some v =>
      have hv6 := hv i (by omega) v e
      refine br_f (nI_m1 (show v < 2 ^ 31 by omega)) ?_
      rw [← bk_some e]
      refine ih (i + 1) z _ (by omega) (by omega) (fun q hq => ?_)
      by_cases e2 : q = i
      · subst e2; rw [pk_us]; unfold flR; rw [e]; rfl
      · rw [pk_un e2]; exact h1 q (by omega)
theorem mb_M {N n : Nat} {g : Nat → Nat} {filled seen0 : Nat → Int32} {Φ : Int32 → Int32 → (Nat → Int32) → (Nat → Int32) → (Nat → Int32) → (Nat → Int32) → Prop} {k : (Nat → Int32) → Prop} (hn : n ≤ 12) (hw : ∀ i, i < n → filled i = nI (g i) ∧ g i < 6) (hk : ∀ seen, (∀ p, p < n → seen p = seen0 p ||| nI (2 ^ g p)) → k seen) :
    ∀ (l i fuel : Nat) (seen : Nat → Int32), i + l = n → l < fuel → (∀ p, p < i → seen p = seen0 p ||| nI (2 ^ g p)) → (∀ p, i ≤ p → seen p = seen0 p) → lp_X12_fill_150 N (nI n) filled Φ k fuel (nI i) seen := by
  intro l
  induction l with
  | zero =>
    intro i fuel seen hi hf h1 h2
    obtain ⟨z, rfl⟩ : ∃ z, fuel = z + 1 := ⟨fuel - 1, by omega⟩
    rw [lp_X12_fill_150]
    exact br_t (nI_le (by omega) (by omega)) (hk seen (fun p hp => h1 p (by omega)))
  | succ l ih =>
    intro i fuel seen hi hf h1 h2
    obtain ⟨z, rfl⟩ : ∃ z, fuel = z + 1 := ⟨fuel - 1, by omega⟩
    obtain ⟨w1, w2⟩ := hw i (by omega)
    have v12 : vp_in (nI i) 12 := in_nI (by omega) (by omega)
    rw [lp_X12_fill_150, nI_clamp (show i < 2 ^ 31 by omega), w1, sh1 _ (by omega), nI_1, h2 i (Nat.le_refl i)]
    refine br_f (nI_ge (by omega) (by omega)) ⟨v12, v12, v12, ih (i + 1) z _ (by omega) (by omega) (fun p hp => ?_) (fun p hp => ?_)⟩
    · by_cases e : p = i
      · subst e; exact pk_us
      · rw [pk_un e]; exact h1 p (by omega)
    · rw [pk_un (by omega)]; exact h2 p (by omega)
theorem bf_M {N b : Nat} {f : Nat → Nat} {trial : Nat → Int32} {Φ : Int32 → Int32 → (Nat → Int32) → (Nat → Int32) → (Nat → Int32) → (Nat → Int32) → Prop} {k : (Nat → Int32) → Prop} (hb : b ≤ 4) (hf : RN b f trial) (hk : ∀ best, RN b f best → k best) :
    ∀ (l i fuel : Nat) (best : Nat → Int32), i + l = b → l < fuel → RN i f best → lp_X12_fill_200 N (nI b) trial Φ k fuel (nI i) best := by
  intro l
  induction l with
  | zero =>
    intro i fuel best hi hfu h1
    obtain ⟨z, rfl⟩ : ∃ z, fuel = z + 1 := ⟨fuel - 1, by omega⟩
    rw [lp_X12_fill_200]
    obtain rfl : i = b := by omega
    exact br_t (nI_le (by omega) (by omega)) (hk best h1)
  | succ l ih =>
    intro i fuel best hi hfu h1
    obtain ⟨z, rfl⟩ : ∃ z, fuel = z + 1 := ⟨fuel - 1, by omega⟩
    rw [lp_X12_fill_200, nI_clamp (show i < 2 ^ 31 by omega), nI_1]
    refine br_f (nI_ge (by omega) (by omega)) ⟨in_nI (by omega) (by omega), in_nI (by omega) (by omega), ih (i + 1) z _ (by omega) (by omega) (fun q hq => ?_)⟩
    by_cases e : q = i
    · subst e; rw [pk_us]; exact hf q (by omega)
    · rw [pk_un e]; exact h1 q (by omega)
