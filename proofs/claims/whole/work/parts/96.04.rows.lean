/-! rows of words gone through in order: the step, its number, the rows by number -/
def nx (w : Nat) : Nat → (Nat → Nat) → (Nat → Nat) × Bool
  | 0, f => (f, false)
  | k + 1, f => if f k + 1 < w then (va_up f k (f k + 1), true) else nx w k (va_up f k 0)
def val (w : Nat) : Nat → (Nat → Nat) → Nat
  | 0, _ => 0
  | k + 1, f => val w k f * w + f k
def itR (w n : Nat) : Nat → (Nat → Nat)
  | 0 => fun _ => 0
  | j + 1 => (nx w n (itR w n j)).1
theorem vu_s {α : Type} {f : Nat → α} {k : Nat} {v : α} : va_up f k v k = v := by simp [va_up]
theorem vu_n {α : Type} {f : Nat → α} {k j : Nat} {v : α} (h : j ≠ k) : va_up f k v j = f j := by simp [va_up, h]
theorem val_congr {w : Nat} : ∀ (k : Nat) (f g : Nat → Nat), (∀ i, i < k → f i = g i) → val w k f = val w k g := by
  intro k
  induction k with
  | zero => intro f g _; rfl
  | succ k ih => intro f g h; rw [val, val, ih f g (fun i hi => h i (by omega)), h k (by omega)]
theorem nx_out {w : Nat} : ∀ (k : Nat) (f : Nat → Nat) (i : Nat), k ≤ i → (nx w k f).1 i = f i := by
  intro k
  induction k with
  | zero => intro f i _; rfl
  | succ k ih =>
    intro f i h
    rw [nx]
    split
    · exact vu_n (by omega)
    · rw [ih _ _ (by omega)]; exact vu_n (by omega)
theorem nx_dig {w : Nat} (hw : 0 < w) : ∀ (k n : Nat) (f : Nat → Nat), (∀ i, i < n → f i < w) → ∀ i, i < n → (nx w k f).1 i < w := by
  intro k
  induction k with
  | zero => intro n f h i hi; exact h i hi
  | succ k ih =>
    intro n f h i hi
    rw [nx]
    split
    · show va_up f k (f k + 1) i < w
      by_cases e : i = k
      · subst e; rw [vu_s]; assumption
      · rw [vu_n e]; exact h i hi
    · refine ih n _ (fun i hi => ?_) i hi
      by_cases e : i = k
      · subst e; rw [vu_s]; exact hw
      · rw [vu_n e]; exact h i hi
theorem nx_val {w : Nat} : ∀ (k : Nat) (f : Nat → Nat), (∀ i, i < k → f i < w) → ((nx w k f).2 = true → val w k (nx w k f).1 = val w k f + 1) ∧ ((nx w k f).2 = false → val w k f + 1 = w ^ k) := by
  intro k
  induction k with
  | zero => intro f _; exact ⟨fun h => by simp [nx] at h, fun _ => rfl⟩
  | succ k ih =>
    intro f hf
    rw [nx]
    have hfk := hf k (by omega)
    by_cases h : f k + 1 < w
    · rw [if_pos h]
      refine ⟨fun _ => ?_, fun z => by simp at z⟩
      show val w (k + 1) (va_up f k (f k + 1)) = _
      rw [val, val, val_congr k _ f (fun i hi => vu_n (by omega)), vu_s]
      omega
    · rw [if_neg h]
      have e : f k + 1 = w := by omega
      obtain ⟨h1, h2⟩ := ih (va_up f k 0) (fun i hi => by rw [vu_n (by omega)]; exact hf i (by omega))
      have e0 : val w k (va_up f k 0) = val w k f := val_congr k _ f (fun i hi => vu_n (by omega))
      refine ⟨fun z => ?_, fun z => ?_⟩
      · rw [val, val, h1 z, nx_out _ _ _ (Nat.le_refl k), vu_s, e0, Nat.add_mul]
        omega
      · have := h2 z
        rw [e0] at this
        rw [val, Nat.pow_succ, ← this, Nat.add_mul]
        omega
theorem val_lt {w : Nat} : ∀ (k : Nat) (f : Nat → Nat), (∀ i, i < k → f i < w) → val w k f < w ^ k := by
  intro k
  induction k with
  | zero => intro f _; exact Nat.one_pos
  | succ k ih =>
    intro f hf
    have h1 := ih f (fun i hi => hf i (by omega))
    have h2 := hf k (by omega)
    rw [val, Nat.pow_succ]
    calc val w k f * w + f k < val w k f * w + w := by omega
      _ = (val w k f + 1) * w := by rw [Nat.add_mul]; omega
      _ ≤ w ^ k * w := Nat.mul_le_mul_right w h1
theorem val_inj {w : Nat} : ∀ (k : Nat) (f g : Nat → Nat), (∀ i, i < k → f i < w) → (∀ i, i < k → g i < w) → val w k f = val w k g → ∀ i, i < k → f i = g i := by
  intro k
  induction k with
  | zero => intro f g _ _ _ i hi; omega
  | succ k ih =>
    intro f g hf hg he i hi
    have hw : 0 < w := by have := hf k (by omega); omega
    rw [val, val] at he
    have e1 : f k = g k := by
      have := congrArg (· % w) he
      simpa [Nat.add_mod, Nat.mod_eq_of_lt (hf k (by omega)), Nat.mod_eq_of_lt (hg k (by omega))] using this
    have e2 : val w k f = val w k g := by
      rw [e1] at he
      exact Nat.eq_of_mul_eq_mul_right hw (by omega)
    rcases Nat.lt_or_ge i k with h | h
    · exact ih f g (fun i hi => hf i (by omega)) (fun i hi => hg i (by omega)) e2 i h
    · rw [show i = k by omega]; exact e1
theorem it_dig {w n : Nat} (hw : 0 < w) : ∀ j i, i < n → itR w n j i < w := by
  intro j
  induction j with
  | zero => intro i _; exact hw
  | succ j ih => intro i hi; exact nx_dig hw n n _ ih i hi
theorem val_0 {w : Nat} : ∀ k, val w k (fun _ => 0) = 0 := by
  intro k
  induction k with
  | zero => rfl
  | succ k ih => rw [val, ih]; omega
theorem it_val {w n : Nat} (hw : 0 < w) : ∀ j, j < w ^ n → val w n (itR w n j) = j := by
  intro j
  induction j with
  | zero => intro _; exact val_0 n
  | succ j ih =>
    intro h
    have hj := ih (by omega)
    obtain ⟨h1, h2⟩ := nx_val n (itR w n j) (it_dig hw j)
    rw [itR]
    cases e : (nx w n (itR w n j)).2 with
    | true => rw [h1 e, hj]
    | false => have := h2 e; omega
theorem it_more {w n j : Nat} (hw : 0 < w) (h : j < w ^ n) : (nx w n (itR w n j)).2 = decide (j + 1 < w ^ n) := by
  have hj := it_val hw j h
  obtain ⟨h1, h2⟩ := nx_val n (itR w n j) (it_dig hw j)
  cases e : (nx w n (itR w n j)).2 with
  | true =>
    have h3 := val_lt n _ (nx_dig hw n n _ (it_dig hw j))
    rw [h1 e, hj] at h3
    simp [h3]
  | false => have := h2 e; simp; omega
/-- each row of words is gone through, at its number -/
theorem row_it {w n : Nat} (f : Nat → Nat) (hw : 0 < w) (hf : ∀ i, i < n → f i < w) : ∀ i, i < n → f i = itR w n (val w n f) i :=
  val_inj n f _ hf (fun i hi => it_dig hw _ i hi) (it_val hw _ (val_lt n f hf)).symm
/-! the two programs' rows -/
def RN (n : Nat) (f : Nat → Nat) (F : Nat → Int32) : Prop := ∀ i, i < n → F i = nI (f i)
theorem i_sub1 (x : Int32) : x + (-1) = x - 1 := by rw [Int32.sub_eq_add_neg]
theorem st_X {N n1 w n : Nat} {Φ : (Nat → Int32) → Prop} (hn : n ≤ n1) (hn1 : n1 ≤ 90) (hw : w ≤ 6) : ∀ (k fuel : Nat) (F : Nat → Int32) (f : Nat → Nat), k ≤ n → k < fuel → RN n f F → (∀ i, i < n → f i < w) → (∀ F', RN n (nx w k f).1 F' → Φ F') → lp_X5_step_4 N n1 (nI w) Φ fuel (nI k - 1) F := by
  intro k
  induction k with
  | zero =>
    intro fuel F f hk hf hR hd h
    obtain ⟨z, rfl⟩ : ∃ z, fuel = z + 1 := ⟨fuel - 1, by omega⟩
    rw [lp_X5_step_4]
    exact br_t (by decide) (h F hR)
  | succ k ih =>
    intro fuel F f hk hf hR hd h
    obtain ⟨z, rfl⟩ : ∃ z, fuel = z + 1 := ⟨fuel - 1, by omega⟩
    rw [lp_X5_step_4, nI_pred]
    have hv : vp_in (nI k) n1 := in_nI (by omega) (by omega)
    have hfk := hd k (by omega)
    refine br_f (nI_pos (by omega)) (br_f (nI_ge (a := k) (b := n1) (by omega) (by omega)) ⟨hv, hv, hv, ?_⟩)
    rw [nI_clamp (show k < 2 ^ 31 by omega), pk_us, hR k (by omega), nI_1, i_sub1]
    rw [nx] at h
    by_cases hc : f k + 1 < w
    · rw [if_pos hc] at h
      refine br_f (nI_ge hc (by omega)) (h _ (fun i hi => ?_))
      show _ = nI (va_up f k (f k + 1) i)
      by_cases e : i = k
      · subst e; rw [pk_us, vu_s]
      · rw [pk_un e, vu_n e]; exact hR i hi
    · rw [if_neg hc] at h
      refine br_t (nI_le (by omega) (by omega)) ⟨hv, ih z _ (va_up f k 0) (by omega) (by omega) (fun i hi => ?_) (fun i hi => ?_) h⟩
      · by_cases e : i = k
        · subst e; rw [pk_us, vu_s]; rfl
        · rw [pk_un e, pk_un e, vu_n e]; exact hR i hi
      · by_cases e : i = k
        · subst e; rw [vu_s]; omega
        · rw [vu_n e]; exact hd i hi
theorem step_X {N n1 w n : Nat} {Φ : (Nat → Int32) → Prop} {F : Nat → Int32} {f : Nat → Nat} (hN : 100 < N) (hn : n ≤ n1) (hn1 : n1 ≤ 90) (hw : w ≤ 6) (hR : RN n f F) (hd : ∀ i, i < n → f i < w) (h : ∀ F', RN n (nx w n f).1 F' → Φ F') : wp_X5_step N n1 (nI n) (nI w) F Φ := by
  unfold wp_X5_step
  exact st_X hn hn1 hw n N F f (Nat.le_refl n) (by omega) hR hd h
theorem nx_M {N w n : Nat} {Φ : Int32 → (Nat → Int32) → Prop} (hn : n ≤ 6) (hw : w ≤ 6) : ∀ (k fuel : Nat) (F : Nat → Int32) (f : Nat → Nat), k ≤ n → k < fuel → RN n f F → (∀ i, i < n → f i < w) → (∀ F', RN n (nx w k f).1 F' → Φ (bI (nx w k f).2) F') → lp_X12_isNext_4 N (nI w) Φ fuel (nI k - 1) F := by
  intro k
  induction k with
  | zero =>
    intro fuel F f hk hf hR hd h
    obtain ⟨z, rfl⟩ : ∃ z, fuel = z + 1 := ⟨fuel - 1, by omega⟩
    rw [lp_X12_isNext_4]
    exact br_t (by decide) (h F hR)
  | succ k ih =>
    intro fuel F f hk hf hR hd h
    obtain ⟨z, rfl⟩ : ∃ z, fuel = z + 1 := ⟨fuel - 1, by omega⟩
    rw [lp_X12_isNext_4, nI_pred]
    have hv : vp_in (nI k) 6 := in_nI (by omega) (by omega)
    have hfk := hd k (by omega)
    refine br_f (nI_pos (by omega)) ⟨hv, hv, hv, ?_⟩
    rw [nI_clamp (show k < 2 ^ 31 by omega), pk_us, hR k (by omega), nI_1, i_sub1]
    rw [nx] at h
    by_cases hc : f k + 1 < w
    · rw [if_pos hc] at h
      refine br_f (nI_ge hc (by omega)) (h _ (fun i hi => ?_))
      show _ = nI (va_up f k (f k + 1) i)
      by_cases e : i = k
      · subst e; rw [pk_us, vu_s]
      · rw [pk_un e, vu_n e]; exact hR i hi
    · rw [if_neg hc] at h
      refine br_t (nI_le (by omega) (by omega)) ⟨hv, ih z _ (va_up f k 0) (by omega) (by omega) (fun i hi => ?_) (fun i hi => ?_) h⟩
      · by_cases e : i = k
        · subst e; rw [pk_us, vu_s]; rfl
        · rw [pk_un e, pk_un e, vu_n e]; exact hR i hi
      · by_cases e : i = k
        · subst e; rw [vu_s]; omega
        · rw [vu_n e]; exact hd i hi
theorem next_M {N w n : Nat} {Φ : Int32 → (Nat → Int32) → Prop} {F : Nat → Int32} {f : Nat → Nat} (hN : 100 < N) (hn : n ≤ 6) (hw : w ≤ 6) (hR : RN n f F) (hd : ∀ i, i < n → f i < w) (h : ∀ F', RN n (nx w n f).1 F' → Φ (bI (nx w n f).2) F') : wp_X12_isNext N (nI n) (nI w) F Φ := by
  unfold wp_X12_isNext
  exact nx_M hn hw n N F f (Nat.le_refl n) (by omega) hR hd h
theorem bg_X {N n1 n : Nat} {Φ : (Nat → Int32) → Prop} (hn : n ≤ n1) (hn1 : n1 ≤ 90) : ∀ (l i fuel : Nat) (F : Nat → Int32), i + l = n → l < fuel → RN i (fun _ => 0) F → (∀ F', RN n (fun _ => 0) F' → Φ F') → lp_X5_begin_2 N n1 (nI n) Φ fuel (nI i) F := by
  intro l
  induction l with
  | zero =>
    intro i fuel F hi hf hR h
    obtain ⟨z, rfl⟩ : ∃ z, fuel = z + 1 := ⟨fuel - 1, by omega⟩
    rw [lp_X5_begin_2]
    refine br_t (nI_le (by omega) (by omega)) (h F ?_)
    rw [← show i = n by omega]; exact hR
  | succ l ih =>
    intro i fuel F hi hf hR h
    obtain ⟨z, rfl⟩ : ∃ z, fuel = z + 1 := ⟨fuel - 1, by omega⟩
    rw [lp_X5_begin_2, nI_1, nI_clamp (show i < 2 ^ 31 by omega)]
    refine br_f (nI_ge (by omega) (by omega)) (br_f (nI_ge (a := i) (b := n1) (by omega) (by omega)) ⟨in_nI (by omega) (by omega), ih (i + 1) z _ (by omega) (by omega) (fun j hj => ?_) h⟩)
    by_cases e : j = i
    · subst e; rw [pk_us]; rfl
    · rw [pk_un e]; exact hR j (by omega)
theorem begin_X {N n1 n : Nat} {Φ : (Nat → Int32) → Prop} {F : Nat → Int32} (hN : 100 < N) (hn : n ≤ n1) (hn1 : n1 ≤ 90) (h : ∀ F', RN n (fun _ => 0) F' → Φ F') : wp_X5_begin N n1 (nI n) F Φ := bg_X hn hn1 n 0 N F (by omega) (by omega) (fun i hi => by omega) h
theorem bg_M {N n : Nat} {Φ : (Nat → Int32) → Prop} (hn : n ≤ 6) : ∀ (l i fuel : Nat) (F : Nat → Int32), i + l = n → l < fuel → RN i (fun _ => 0) F → (∀ F', RN n (fun _ => 0) F' → Φ F') → lp_X12_begin_2 N (nI n) Φ fuel (nI i) F := by
  intro l
  induction l with
  | zero =>
    intro i fuel F hi hf hR h
    obtain ⟨z, rfl⟩ : ∃ z, fuel = z + 1 := ⟨fuel - 1, by omega⟩
    rw [lp_X12_begin_2]
    refine br_t (nI_le (by omega) (by omega)) (h F ?_)
    rw [← show i = n by omega]; exact hR
  | succ l ih =>
    intro i fuel F hi hf hR h
    obtain ⟨z, rfl⟩ : ∃ z, fuel = z + 1 := ⟨fuel - 1, by omega⟩
    rw [lp_X12_begin_2, nI_1, nI_clamp (show i < 2 ^ 31 by omega)]
    refine br_f (nI_ge (by omega) (by omega)) ⟨in_nI (by omega) (by omega), ih (i + 1) z _ (by omega) (by omega) (fun j hj => ?_) h⟩
    by_cases e : j = i
    · subst e; rw [pk_us]; rfl
    · rw [pk_un e]; exact hR j (by omega)
theorem begin_M {N n : Nat} {Φ : (Nat → Int32) → Prop} {F : Nat → Int32} (hN : 100 < N) (hn : n ≤ 6) (h : ∀ F', RN n (fun _ => 0) F' → Φ F') : wp_X12_begin N (nI n) F Φ := bg_M hn n 0 N F (by omega) (by omega) (fun i hi => by omega) h
theorem hm_X {N w n : Nat} {Φ : Int32 → Prop} (hn : n ≤ 12) : ∀ (l i fuel : Nat), i + l = n → l < fuel → Φ (nI (w ^ n)) → lp_X5_howMany_4 N (nI w) (nI n) Φ fuel (nI (w ^ i)) (nI i) := by
  intro l
  induction l with
  | zero =>
    intro i fuel hi hf h
    obtain ⟨z, rfl⟩ : ∃ z, fuel = z + 1 := ⟨fuel - 1, by omega⟩
    rw [lp_X5_howMany_4]
    refine br_t (nI_le (by omega) (by omega)) ?_
    rw [show i = n by omega]; exact h
  | succ l ih =>
    intro i fuel hi hf h
    obtain ⟨z, rfl⟩ : ∃ z, fuel = z + 1 := ⟨fuel - 1, by omega⟩
    rw [lp_X5_howMany_4, nI_1, pk_mul, ← Nat.pow_succ]
    exact br_f (nI_ge (by omega) (by omega)) (ih (i + 1) z (by omega) (by omega) h)
theorem many_X {N w n : Nat} {Φ : Int32 → Prop} (hN : 100 < N) (hn : n ≤ 12) (h : Φ (nI (w ^ n))) : wp_X5_howMany N (nI w) (nI n) Φ := hm_X hn n 0 N (by omega) (by omega) h
