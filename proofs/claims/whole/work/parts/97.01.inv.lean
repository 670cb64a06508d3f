/-! the state of both programs, and what joins them -/
def TG (w r : Nat) (kd se gw st rk re rw : Nat → Nat) (k s g t a b c : Nat → Int32) : Prop := KS w kd se k s ∧ RD r rk re rw a b c ∧ ∀ v, v < w → g v = nI (gw v) ∧ gw v ≤ 9 ∧ t v = nI (st v) ∧ st v ≤ 9
def PR (w q : Nat) (pa pb : Nat → Nat) (f g : Nat → Int32) : Prop := q ≤ 12 ∧ (∀ i, i < q → f i = nI (pa i) ∧ g i = nI (pb i) ∧ pa i < w ∧ pb i < w) ∧ ∀ i j, i < j → j < q → ¬ (pa i = pa j ∧ pb i = pb j)
def RF (F G : Nat → Int32) : Prop := ∀ i, i < 7 → F i = G i
def LT (t : Nat) (f g : Nat → Int32) : Prop := t ≤ 64 ∧ ∀ i, i < t → ∃ c, c < 256 ∧ f i = nI c ∧ g i = nI c
def KP (v0 v6 v7 v8 v9 : Int32) (f1 f2 f3 f4 f5 f6 f7 f8 f9 f10 : Nat → Int32) (w4 : Int32) (g : Nat → Int32) : Prop := (v0 = 0 ∧ w4 = 0) ∨ (v0 = 1 ∧ w4 = 1 ∧ ∃ (w r n q : Nat) (kd se gw st rk re rw : Nat → Nat) (rg : Nat → Option Nat) (pa pb : Nat → Nat),
  v6 = nI w ∧ v7 = nI r ∧ v8 = nI n ∧ v9 = nI q ∧ g 0 = nI w ∧ g 1 = nI r ∧ g 2 = nI n ∧ g 3 = nI q ∧
  TG w r kd se gw st rk re rw f1 f2 f3 f4 f5 f6 f7 ∧ TG w r kd se gw st rk re rw (fun i => g (4 + i)) (fun i => g (10 + i)) (fun i => g (16 + i)) (fun i => g (22 + i)) (fun i => g (28 + i)) (fun i => g (34 + i)) (fun i => g (40 + i)) ∧
  RW w n 12 rg f8 ∧ RW w n 12 rg (fun i => g (46 + i)) ∧ PR w q pa pb f9 f10 ∧ PR w q pa pb (fun i => g (58 + i)) (fun i => g (70 + i)))
def SK (w : Nat) (kd se : Nat → Nat) (by_ : Nat) (vk kn said : Int32) (fewest firsts counts without : Nat → Int32) : Prop := vk = nI by_ ∧ (kn = 0 ∨ (kn = 1 ∧ SV kd se w by_ 6 0 said fewest firsts counts without))
def EK (w r : Nat) (kd se rk re rw : Nat → Nat) (kn places : Int32) (ring : Nat → Int32) : Prop := kn = 0 ∨ (kn = 1 ∧ EA kd se rk re rw w r places ring)
def NK (w r n : Nat) (kd se gw rk re rw : Nat → Nat) (rg : Nat → Option Nat) (kn blanks many best : Int32) (bestFill seen : Nat → Int32) : Prop := kn = 0 ∨ (kn = 1 ∧ blanks = nI (bk rg n) ∧ WN kd se gw rk re rw w r n rg (w ^ bk rg n) many best bestFill seen)
def HK (a b : Nat → Int32) : Prop := (a 0 = nI 118 ∧ a 1 = nI 110 ∧ a 2 = nI 97 ∧ a 3 = nI 111 ∧ a 4 = nI 101 ∧ a 5 = nI 114 ∧ a 6 = nI 115) ∧ b 0 = nI 114 ∧ b 1 = nI 98 ∧ b 2 = nI 115 ∧ b 3 = nI 100 ∧ b 4 = nI 104
def Inv (vi : Nat → Int32) (fa : Nat → Nat → Int32) (wi : Nat → Int32) (ga : Nat → Nat → Int32) : Prop := ∃ (w r n q : Nat) (kd se gw st rk re rw : Nat → Nat) (rg : Nat → Option Nat) (pa pb : Nat → Nat) (t : Nat),
  vi 2 = nI w ∧ vi 3 = nI r ∧ vi 4 = nI n ∧ vi 5 = nI q ∧ wi 0 = nI w ∧ wi 1 = nI r ∧ wi 2 = nI n ∧ wi 3 = nI q ∧ vi 1 = nI t ∧ wi 7 = nI t ∧
  TG w r kd se gw st rk re rw (fa 1) (fa 2) (fa 3) (fa 4) (fa 5) (fa 6) (fa 7) ∧ TG w r kd se gw st rk re rw (ga 1) (ga 2) (ga 3) (ga 4) (ga 5) (ga 6) (ga 7) ∧
  RW w n 12 rg (fa 8) ∧ RW w n 12 rg (ga 8) ∧ PR w q pa pb (fa 9) (fa 10) ∧ PR w q pa pb (ga 9) (ga 10) ∧
  RF (fa 64) (ga 0) ∧ LT t (fa 0) (ga 12) ∧ KP (vi 0) (vi 6) (vi 7) (vi 8) (vi 9) (fa 11) (fa 12) (fa 13) (fa 14) (fa 15) (fa 16) (fa 17) (fa 18) (fa 19) (fa 20) (wi 4) (ga 11) ∧
  SK w kd se 0 (vi 16) (vi 17) (vi 18) (fa 29) (fa 30) (fa 31) (fa 32) ∧ SK w kd se 1 (vi 19) (vi 20) (vi 21) (fa 34) (fa 35) (fa 36) (fa 37) ∧ SK w kd se 2 (vi 22) (vi 23) (vi 24) (fa 39) (fa 40) (fa 41) (fa 42) ∧ SK w kd se 3 (vi 25) (vi 26) (vi 27) (fa 44) (fa 45) (fa 46) (fa 47) ∧ SK w kd se 4 (vi 28) (vi 29) (vi 30) (fa 49) (fa 50) (fa 51) (fa 52) ∧
  EK w r kd se rk re rw (vi 31) (vi 32) (fa 54) ∧ NK w r n kd se gw rk re rw rg (vi 33) (vi 34) (vi 35) (vi 36) (fa 55) (fa 56) ∧ HK (ga 13) (ga 14)
/-! numbers out of a range -/
theorem out (x : Int32) {n : Nat} (hn : n < 2 ^ 31) : (x < 0 ∨ nI n ≤ x) ∨ ∃ j, j < n ∧ x = nI j := by
  rcases pk_ix x hn with h | h | h
  · exact Or.inl (Or.inl h)
  · exact Or.inl (Or.inr h)
  · exact Or.inr h
def RX (x : Int32) : Prop := x = -1 ∨ x = -2 ∨ x = -3 ∨ x = -4 ∨ x = -6
theorem ref_X {N : Nat} {F : Nat → Int32} {Φ : Int32 → (Nat → Int32) → Prop} {x : Int32} (hx : RX x) (h : Φ x (upd F (Int32.toNatClampNeg (-x)) (F (Int32.toNatClampNeg (-x)) + 1))) : wp_X11_refuse N x F Φ := by
  unfold wp_X11_refuse
  have hv : vp_in (-x) 7 := by
    rcases hx with rfl | rfl | rfl | rfl | rfl <;> (refine vp_in_iff.mpr ?_; decide)
  refine br_f ?_ (br_f ?_ ⟨hv, hv, h⟩)
  · rcases hx with rfl | rfl | rfl | rfl | rfl <;> decide
  · rcases hx with rfl | rfl | rfl | rfl | rfl <;> decide
theorem no_M {N : Nat} {F : Nat → Int32} {Φ : Int32 → (Nat → Int32) → Prop} {x : Int32} (hx : RX x) (h : Φ x (upd F (Int32.toNatClampNeg (-x)) (F (Int32.toNatClampNeg (-x)) + 1))) : wp_X12_no N x F Φ := by
  unfold wp_X12_no
  have hv : vp_in (-x) 7 := by
    rcases hx with rfl | rfl | rfl | rfl | rfl <;> (refine vp_in_iff.mpr ?_; decide)
  exact ⟨hv, hv, h⟩
theorem RF_up {F G : Nat → Int32} (h : RF F G) {x : Int32} (hx : RX x) : RF (upd F (Int32.toNatClampNeg (-x)) (F (Int32.toNatClampNeg (-x)) + 1)) (upd G (Int32.toNatClampNeg (-x)) (G (Int32.toNatClampNeg (-x)) + 1)) := by
  have hv : Int32.toNatClampNeg (-x) < 7 := by
    rcases hx with rfl | rfl | rfl | rfl | rfl <;> decide
  intro i hi
  by_cases e : i = Int32.toNatClampNeg (-x)
  · subst e; rw [pk_us, pk_us, h _ hi]
  · rw [pk_un e, pk_un e, h _ hi]
theorem r1 : RX (-1) := Or.inl rfl
theorem r2 : RX (-2) := Or.inr (Or.inl rfl)
theorem r3 : RX (-3) := Or.inr (Or.inr (Or.inl rfl))
theorem r4 : RX (-4) := Or.inr (Or.inr (Or.inr (Or.inl rfl)))
theorem r6 : RX (-6) := Or.inr (Or.inr (Or.inr (Or.inr rfl)))
theorem hw_out {N : Nat} {x v : Int32} {Φ : Int32 → Prop} (h : x < 0 ∨ v ≤ x) (k : Φ 0) : wp_X8_hasWord N x v Φ := ⟨fun _ => k, fun c => ⟨fun _ => k, fun c2 => (h.elim (fun z => absurd z c) (fun z => absurd z c2))⟩⟩
theorem hr_out {N : Nat} {x v : Int32} {Φ : Int32 → Prop} (h : x < 0 ∨ v ≤ x) (k : Φ 0) : wp_X8_hasRoad N x v Φ := ⟨fun _ => k, fun c => ⟨fun _ => k, fun c2 => (h.elim (fun z => absurd z c) (fun z => absurd z c2))⟩⟩
theorem hp_out {N : Nat} {x v : Int32} {Φ : Int32 → Prop} (h : x < 0 ∨ v ≤ x) (k : Φ 0) : wp_X4_hasPlace N x v Φ := ⟨fun _ => k, fun c => ⟨fun _ => k, fun c2 => (h.elim (fun z => absurd z c) (fun z => absurd z c2))⟩⟩
theorem hr_some {N j w : Nat} {Φ : Int32 → Prop} (hj : j < w) (hw : w < 2 ^ 31) (h : Φ 1) : wp_X8_hasRoad N (nI j) (nI w) Φ := ⟨fun c => absurd c (nI_pos (by omega)), fun _ => ⟨fun c => absurd c (nI_ge hj hw), fun _ => h⟩⟩
theorem hp_some {N j w : Nat} {Φ : Int32 → Prop} (hj : j < w) (hw : w < 2 ^ 31) (h : Φ 1) : wp_X4_hasPlace N (nI j) (nI w) Φ := ⟨fun c => absurd c (nI_pos (by omega)), fun _ => ⟨fun c => absurd c (nI_ge hj hw), fun _ => h⟩⟩
theorem nlt {x v : Int32} (h : v ≤ x) : ¬ x < v := Int32.not_lt.mpr h
theorem nle {x v : Int32} (h : x < v) : ¬ v ≤ x := Int32.not_le.mpr h
theorem nw_out {N : Nat} {x v : Int32} {Φ : Int32 → Prop} (h : x < 0 ∨ v ≤ x) (k : Φ 1) : wp_X12_isNoWord N x v Φ := ⟨fun _ => k, fun c => ⟨fun c2 => (h.elim (fun z => absurd z c) (fun z => absurd c2 (nlt z))), fun _ => k⟩⟩
theorem np_out {N : Nat} {x v : Int32} {Φ : Int32 → Prop} (h : x < 0 ∨ v ≤ x) (k : Φ 1) : wp_X12_isNoPlace N x v Φ := ⟨fun _ => k, fun c => ⟨fun c2 => (h.elim (fun z => absurd z c) (fun z => absurd c2 (nlt z))), fun _ => k⟩⟩
theorem nw_some {N j w : Nat} {Φ : Int32 → Prop} (hj : j < w) (hw : w < 2 ^ 31) (h : Φ 0) : wp_X12_isNoWord N (nI j) (nI w) Φ := ⟨fun c => absurd c (nI_pos (by omega)), fun _ => ⟨fun _ => h, fun c => absurd (nI_lt hj hw) c⟩⟩
theorem np_some {N j w : Nat} {Φ : Int32 → Prop} (hj : j < w) (hw : w < 2 ^ 31) (h : Φ 0) : wp_X12_isNoPlace N (nI j) (nI w) Φ := ⟨fun c => absurd c (nI_pos (by omega)), fun _ => ⟨fun _ => h, fun c => absurd (nI_lt hj hw) c⟩⟩
theorem five {x : Int32} (h : nI 5 ≤ x) : ¬ x ≤ 4 := by
  intro z
  have h1 := Int32.le_iff_toInt_le.mp h
  have h2 := Int32.le_iff_toInt_le.mp z
  rw [nI_toInt (by omega)] at h1
  have h4 : (4 : Int32).toInt = 4 := by decide
  omega
theorem ir_out {N : Nat} {x : Int32} {Φ : Int32 → Prop} (h : x < 0 ∨ nI 5 ≤ x) (k : Φ 0) : wp_X11_isReader N x Φ := ⟨fun _ => k, fun c => ⟨fun _ => k, fun c2 => (h.elim (fun z => absurd z c) (fun z => absurd z c2))⟩⟩
theorem ir_some {N j : Nat} {Φ : Int32 → Prop} (hj : j < 5) (h : Φ 1) : wp_X11_isReader N (nI j) Φ := ⟨fun c => absurd c (nI_pos (by omega)), fun _ => ⟨fun c => absurd c (nI_ge (b := 5) hj (by omega)), fun _ => h⟩⟩
theorem nk_out {N : Nat} {x : Int32} {Φ : Int32 → Prop} (h : x < 0 ∨ nI 5 ≤ x) (k : Φ 1) : wp_X12_isNoKind N x Φ := ⟨fun _ => k, fun c => ⟨fun c2 => (h.elim (fun z => absurd z c) (fun z => absurd c2 (five z))), fun _ => k⟩⟩
theorem nk_some {N j : Nat} {Φ : Int32 → Prop} (hj : j < 5) (h : Φ 0) : wp_X12_isNoKind N (nI j) Φ := ⟨fun c => absurd c (nI_pos (by omega)), fun _ => ⟨fun _ => h, fun c => absurd (nI_le (b := 4) (by omega) (by omega)) c⟩⟩
/-- a WORD, BLANK, or neither -/
theorem wordOr (x : Int32) {w : Nat} (hw : w ≤ 6) : (x ≠ -1 ∧ (x < -1 ∨ nI w ≤ x) ∧ (x < 0 ∨ nI w ≤ x)) ∨ ∃ o : Option Nat, x = ow o ∧ ∀ v, o = some v → v < w := by
  by_cases e : x = -1
  · exact Or.inr ⟨none, e, fun v h => by cases h⟩
  · rcases out x (n := w) (by omega) with h | ⟨j, hj, rfl⟩
    · refine Or.inl ⟨e, ?_, h⟩
      rcases h with h | h
      · left
        have h1 := Int32.lt_iff_toInt_lt.mp h
        have h0 : (0 : Int32).toInt = 0 := by decide
        have hm : (-1 : Int32).toInt = -1 := by decide
        refine Int32.lt_iff_toInt_lt.mpr ?_
        have : x.toInt ≠ (-1 : Int32).toInt := fun z => e (Int32.toInt_inj.mp z)
        omega
      · exact Or.inr h
    · exact Or.inr ⟨some j, rfl, fun v h => by cases h; exact hj⟩
theorem wb_out {N : Nat} {x v : Int32} {Φ : Int32 → Prop} (e : x ≠ -1) (h : x < 0 ∨ v ≤ x) (k : Φ 0) : wp_X11_isWordOrBlank N x v Φ := br_f e (hw_out h (br_t rfl k))
theorem wb_some {N w : Nat} {o : Option Nat} {Φ : Int32 → Prop} (hw : w ≤ 6) (ho : ∀ v, o = some v → v < w) (k : Φ 1) : wp_X11_isWordOrBlank N (ow o) (nI w) Φ := by
  cases o with
  | none => exact br_t rfl k
  | some v => have := ho v rfl; exact br_f (nI_m1 (show v < 2 ^ 31 by omega)) (hw_some this (by omega) (br_f (by decide) k))
theorem ow_ge {o : Option Nat} (ho : ∀ v, o = some v → v < 100) : ¬ ow o < -1 := by
  intro h
  have h1 := Int32.lt_iff_toInt_lt.mp h
  have hm : (-1 : Int32).toInt = -1 := by decide
  cases o with
  | none => exact absurd h (by decide)
  | some v =>
    have := ho v rfl
    rw [show ow (some v) = nI v from rfl, nI_toInt (by omega)] at h1
    omega
theorem ow_lt {o : Option Nat} {w : Nat} (hw : w ≤ 6) (ho : ∀ v, o = some v → v < w) : ow o < nI w := by
  refine Int32.lt_iff_toInt_lt.mpr ?_
  rw [nI_toInt (by omega)]
  cases o with
  | none => have : (ow none).toInt = -1 := by decide
            omega
  | some v =>
    have := ho v rfl
    rw [show ow (some v) = nI v from rfl, nI_toInt (by omega)]
    omega
theorem ow_m1 {o : Option Nat} (ho : ∀ v, o = some v → v < 100) : ow o = -1 ↔ o = none := by
  cases o with
  | none => exact ⟨fun _ => rfl, fun _ => rfl⟩
  | some v =>
    have := ho v rfl
    exact ⟨fun h => absurd h (nI_m1 (show v < 2 ^ 31 by omega)), fun h => by cases h⟩
theorem RW_put {w n m p : Nat} {rg : Nat → Option Nat} {f : Nat → Int32} {o : Option Nat} (h : RW w n 12 rg f) (hm : m ≤ 12) (hp : p < 12) (hmn : ∀ i, i < m → i ≠ p → i < n) (ho : ∀ v, o = some v → v < w) : RW w m 12 (va_up rg p o) (upd f p (ow o)) := by
  refine ⟨hm, by omega, fun i hi => ?_⟩
  by_cases e : i = p
  · subst e; rw [pk_us, vu_s]; exact ⟨rfl, ho⟩
  · rw [pk_un e, vu_n e]; exact h.2.2 i (hmn i hi e)
