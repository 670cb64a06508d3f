/-! the tongue: what is read of the letters, part by part -/
abbrev QT := Nat × Nat × Nat × Nat
def dg (s : Nat → Nat) (t p : Nat) : Bool := decide (p < t) && decide (48 ≤ s p) && decide (s p ≤ 57)
def nm (two : Bool) (s : Nat → Nat) (t p : Nat) : Option (Nat × Nat) := if dg s t p = true then (if (two && dg s t (p + 1)) = true then some ((s p - 48) * 10 + (s (p + 1) - 48), p + 2) else some (s p - 48, p + 1)) else none
def lit (c : Nat) (s : Nat → Nat) (t p : Nat) : Bool := decide (p < t) && decide (s p = c)
def fi (b : Nat → Nat) (c : Nat) : Nat → Nat → Option Nat
  | 0, _ => none
  | l + 1, j => if b j = c then some j else fi b c l (j + 1)
def rb (j : Nat) : Nat := [114, 98, 115, 100, 104].getD j 0
def lb (j : Nat) : Nat := [118, 110, 97, 111, 101, 114, 115].getD j 0
def rdK (s : Nat → Nat) (t p : Nat) : Option Nat := if p < t then fi rb (s p) 5 0 else none
def ldK (s : Nat → Nat) (t p : Nat) : Option Nat := if p < t then fi lb (s p) 7 0 else none
def thN (two : Bool) (s : Nat → Nat) (t p : Nat) (k : Nat → Nat → Nat × Option QT) : Nat × Option QT := match nm two s t p with
  | none => (p, none)
  | some x => k x.1 x.2
def thL (c : Nat) (s : Nat → Nat) (t p : Nat) (k : Nat → Nat × Option QT) : Nat × Option QT := if lit c s t p = true then k (p + 1) else (p, none)
def thR (s : Nat → Nat) (t p : Nat) (k : Nat → Nat → Nat × Option QT) : Nat × Option QT := match rdK s t p with
  | none => (p, none)
  | some x => k x (p + 1)
/-- one STATEMENT from place p on: where it ends, or the letter that can't be -/
def stm (s : Nat → Nat) (t p : Nat) : Nat × Option QT := match ldK s t p with
  | none => (p, none)
  | some k => if k = 0 then thN true s t (p + 1) (fun a p1 => thL 44 s t p1 (fun p2 => thN false s t p2 (fun b p3 => thL 59 s t p3 (fun p4 => (p4, some (0, a, b, 0))))))
    else if k = 5 then thR s t (p + 1) (fun a p1 => thN false s t p1 (fun b p2 => thL 44 s t p2 (fun p3 => thN true s t p3 (fun c p4 => thL 59 s t p4 (fun p5 => (p5, some (5, a, b, c)))))))
    else if k = 6 then thN false s t (p + 1) (fun a p1 => thL 44 s t p1 (fun p2 => thN false s t p2 (fun b p3 => thL 59 s t p3 (fun p4 => (p4, some (6, a, b, 0))))))
    else thN false s t (p + 1) (fun b p1 => thL 59 s t p1 (fun p2 => (p2, some (k, 16, b, 0))))
theorem dg_true {s : Nat → Nat} {t p : Nat} : dg s t p = true ↔ p < t ∧ 48 ≤ s p ∧ s p ≤ 57 := by
  unfold dg
  simp [and_assoc]
theorem dg_false {s : Nat → Nat} {t p : Nat} (h : ¬ (p < t ∧ 48 ≤ s p ∧ s p ≤ 57)) : dg s t p = false := by
  cases e : dg s t p with
  | false => rfl
  | true => exact absurd (dg_true.mp e) h
theorem nm_bd {two : Bool} {s : Nat → Nat} {t p v p' : Nat} (h : nm two s t p = some (v, p')) : p < p' ∧ p' ≤ t ∧ v ≤ 99 ∧ (two = false → v ≤ 9) := by
  unfold nm at h
  by_cases d : dg s t p = true
  · rw [if_pos d] at h
    obtain ⟨d1, d2, d3⟩ := dg_true.mp d
    by_cases e : (two && dg s t (p + 1)) = true
    · rw [if_pos e] at h
      rw [Bool.and_eq_true] at e
      obtain ⟨e1, e2, e3⟩ := dg_true.mp e.2
      cases h
      refine ⟨by omega, by omega, by omega, fun z => ?_⟩
      rw [z] at e; cases e.1
    · rw [if_neg e] at h
      cases h
      exact ⟨by omega, by omega, by omega, fun _ => by omega⟩
  · rw [if_neg d] at h
    cases h
theorem lit_bd {c : Nat} {s : Nat → Nat} {t p : Nat} (h : lit c s t p = true) : p < t ∧ s p = c := by
  unfold lit at h
  rw [Bool.and_eq_true, decide_eq_true_iff, decide_eq_true_iff] at h
  exact h
theorem lit_no {c : Nat} {s : Nat → Nat} {t p : Nat} (h : ¬ (p < t ∧ s p = c)) : lit c s t p = false := by
  cases e : lit c s t p with
  | false => rfl
  | true => exact absurd (lit_bd e) h
theorem fi_bd {b : Nat → Nat} {c : Nat} : ∀ l j k, fi b c l j = some k → j ≤ k ∧ k < j + l ∧ b k = c := by
  intro l
  induction l with
  | zero => intro j k h; cases h
  | succ l ih =>
    intro j k h
    rw [fi] at h
    split at h
    · rename_i e
      cases h
      exact ⟨by omega, by omega, e⟩
    · obtain ⟨a1, a2, a3⟩ := ih _ _ h
      exact ⟨by omega, by omega, a3⟩
theorem thN_inv {two : Bool} {s : Nat → Nat} {t p e : Nat} {k : Nat → Nat → Nat × Option QT} {x : QT} (h : thN two s t p k = (e, some x)) : ∃ v p', nm two s t p = some (v, p') ∧ k v p' = (e, some x) := by
  unfold thN at h
  cases y : nm two s t p with
  | none => rw [y] at h; cases h
  | some z => rw [y] at h; exact ⟨z.1, z.2, rfl, h⟩
theorem thL_inv {c : Nat} {s : Nat → Nat} {t p e : Nat} {k : Nat → Nat × Option QT} {x : QT} (h : thL c s t p k = (e, some x)) : lit c s t p = true ∧ k (p + 1) = (e, some x) := by
  unfold thL at h
  by_cases y : lit c s t p = true
  · rw [if_pos y] at h; exact ⟨y, h⟩
  · rw [if_neg y] at h; cases h
theorem thR_inv {s : Nat → Nat} {t p e : Nat} {k : Nat → Nat → Nat × Option QT} {x : QT} (h : thR s t p k = (e, some x)) : ∃ v, rdK s t p = some v ∧ k v (p + 1) = (e, some x) := by
  unfold thR at h
  cases y : rdK s t p with
  | none => rw [y] at h; cases h
  | some z => rw [y] at h; exact ⟨z, rfl, h⟩
theorem rdK_bd {s : Nat → Nat} {t p v : Nat} (h : rdK s t p = some v) : p < t ∧ v ≤ 4 := by
  unfold rdK at h
  split at h
  · rename_i e
    have := fi_bd _ _ _ h
    exact ⟨e, by omega⟩
  · cases h
theorem ldK_bd {s : Nat → Nat} {t p v : Nat} (h : ldK s t p = some v) : p < t ∧ v ≤ 6 ∧ s p = lb v := by
  unfold ldK at h
  split at h
  · rename_i e
    have := fi_bd _ _ _ h
    exact ⟨e, by omega, this.2.2.symm⟩
  · cases h
/-- what a STATEMENT's numbers are bounded by -/
theorem stm_bd {s : Nat → Nat} {t p e k a b c : Nat} (h : stm s t p = (e, some (k, a, b, c))) : p < e ∧ e ≤ t ∧ p < t ∧ ldK s t p = some k ∧ k ≤ 6 ∧ b ≤ 9 ∧ (k = 0 → a ≤ 99) ∧ (k ≠ 0 → k < 5 → a = 16) ∧ (k = 5 → a ≤ 4 ∧ c ≤ 99) ∧ (k = 6 → a ≤ 9) := by
  unfold stm at h
  cases y : ldK s t p with
  | none => rw [y] at h; cases h
  | some k' =>
    rw [y] at h
    obtain ⟨y1, y2, y3⟩ := ldK_bd y
    dsimp only at h
    by_cases k0 : k' = 0
    · rw [if_pos k0] at h
      obtain ⟨v, p1, h1, h⟩ := thN_inv h
      obtain ⟨h2, h⟩ := thL_inv h
      obtain ⟨u, p3, h3, h⟩ := thN_inv h
      obtain ⟨h4, h⟩ := thL_inv h
      have b1 := nm_bd h1
      have b2 := lit_bd h2
      have b3 := nm_bd h3
      have b4 := lit_bd h4
      cases h
      have := b3.2.2.2 rfl
      exact ⟨by omega, by omega, y1, by rw [k0], by omega, by omega, fun _ => by omega, fun z => absurd rfl z, fun z => by omega, fun z => by omega⟩
    · rw [if_neg k0] at h
      by_cases k5 : k' = 5
      · rw [if_pos k5] at h
        obtain ⟨v, h1, h⟩ := thR_inv h
        obtain ⟨u, p2, h2, h⟩ := thN_inv h
        obtain ⟨h3, h⟩ := thL_inv h
        obtain ⟨x, p4, h4, h⟩ := thN_inv h
        obtain ⟨h5, h⟩ := thL_inv h
        have b1 := rdK_bd h1
        have b2 := nm_bd h2
        have b3 := lit_bd h3
        have b4 := nm_bd h4
        have b5 := lit_bd h5
        cases h
        have := b2.2.2.2 rfl
        exact ⟨by omega, by omega, y1, by rw [k5], by omega, by omega, fun z => by omega, fun _ z => by omega, fun _ => ⟨by omega, by omega⟩, fun z => by omega⟩
      · rw [if_neg k5] at h
        by_cases k6 : k' = 6
        · rw [if_pos k6] at h
          obtain ⟨v, p1, h1, h⟩ := thN_inv h
          obtain ⟨h2, h⟩ := thL_inv h
          obtain ⟨u, p3, h3, h⟩ := thN_inv h
          obtain ⟨h4, h⟩ := thL_inv h
          have b1 := nm_bd h1
          have b2 := lit_bd h2
          have b3 := nm_bd h3
          have b4 := lit_bd h4
          cases h
          have q1 := b1.2.2.2 rfl
          have q3 := b3.2.2.2 rfl
          exact ⟨by omega, by omega, y1, by rw [k6], by omega, by omega, fun z => by omega, fun _ z => by omega, fun z => by omega, fun _ => by omega⟩
        · rw [if_neg k6] at h
          obtain ⟨v, p1, h1, h⟩ := thN_inv h
          obtain ⟨h2, h⟩ := thL_inv h
          have b1 := nm_bd h1
          have b2 := lit_bd h2
          cases h
          have q1 := b1.2.2.2 rfl
          exact ⟨by omega, by omega, y1, rfl, by omega, by omega, fun z => by omega, fun _ _ => rfl, fun z => by omega, fun z => by omega⟩
theorem thN_no {two : Bool} {s : Nat → Nat} {t p e : Nat} {k : Nat → Nat → Nat × Option QT} (hp : p ≤ t) (h : thN two s t p k = (e, none)) : e ≤ t ∨ ∃ v p', p' ≤ t ∧ k v p' = (e, none) := by
  unfold thN at h
  cases y : nm two s t p with
  | none => rw [y] at h; cases h; exact Or.inl hp
  | some z =>
    rw [y] at h
    have := nm_bd (v := z.1) (p' := z.2) y
    exact Or.inr ⟨z.1, z.2, this.2.1, h⟩
theorem thL_no {c : Nat} {s : Nat → Nat} {t p e : Nat} {k : Nat → Nat × Option QT} (hp : p ≤ t) (h : thL c s t p k = (e, none)) : e ≤ t ∨ (p + 1 ≤ t ∧ k (p + 1) = (e, none)) := by
  unfold thL at h
  by_cases y : lit c s t p = true
  · rw [if_pos y] at h
    have := lit_bd y
    exact Or.inr ⟨by omega, h⟩
  · rw [if_neg y] at h; cases h; exact Or.inl hp
theorem thR_no {s : Nat → Nat} {t p e : Nat} {k : Nat → Nat → Nat × Option QT} (hp : p ≤ t) (h : thR s t p k = (e, none)) : e ≤ t ∨ ∃ v, p + 1 ≤ t ∧ k v (p + 1) = (e, none) := by
  unfold thR at h
  cases y : rdK s t p with
  | none => rw [y] at h; cases h; exact Or.inl hp
  | some z =>
    rw [y] at h
    have := rdK_bd y
    exact Or.inr ⟨z, by omega, h⟩
theorem stm_no {s : Nat → Nat} {t p e : Nat} (hp : p ≤ t) (h : stm s t p = (e, none)) : e ≤ t := by
  unfold stm at h
  cases y : ldK s t p with
  | none => rw [y] at h; cases h; exact hp
  | some k' =>
    rw [y] at h
    have y1 := (ldK_bd y).1
    dsimp only at h
    split at h
    · rcases thN_no (by omega) h with z | ⟨v, p1, q1, h⟩
      · exact z
      rcases thL_no q1 h with z | ⟨q2, h⟩
      · exact z
      rcases thN_no q2 h with z | ⟨u, p3, q3, h⟩
      · exact z
      rcases thL_no q3 h with z | ⟨q4, h⟩
      · exact z
      cases h
    · split at h
      · rcases thR_no (by omega) h with z | ⟨v, q1, h⟩
        · exact z
        rcases thN_no q1 h with z | ⟨v, p1, q2, h⟩
        · exact z
        rcases thL_no q2 h with z | ⟨q3, h⟩
        · exact z
        rcases thN_no q3 h with z | ⟨u, p3, q4, h⟩
        · exact z
        rcases thL_no q4 h with z | ⟨q5, h⟩
        · exact z
        cases h
      · split at h
        · rcases thN_no (by omega) h with z | ⟨v, p1, q1, h⟩
          · exact z
          rcases thL_no q1 h with z | ⟨q2, h⟩
          · exact z
          rcases thN_no q2 h with z | ⟨u, p3, q3, h⟩
          · exact z
          rcases thL_no q3 h with z | ⟨q4, h⟩
          · exact z
          cases h
        · rcases thN_no (by omega) h with z | ⟨v, p1, q1, h⟩
          · exact z
          rcases thL_no q1 h with z | ⟨q2, h⟩
          · exact z
          cases h
/-! the letters in both programs -/
def TP (s : Nat → Nat) (t : Nat) (f : Nat → Int32) : Prop := t ≤ 64 ∧ ∀ i, i < t → f i = nI (s i) ∧ s i < 256
def sgv (s : Nat → Nat) (t p : Nat) : Int32 := if p < t then nI (s p) else -1
theorem sg_X {N t p : Nat} {s : Nat → Nat} {f : Nat → Int32} {Φ : Int32 → Prop} (hT : TP s t f) (hp : p < 1000) (h : Φ (sgv s t p)) : wp_X2_signAt N (nI p) (nI t) f Φ := by
  unfold sgv at h
  have ht := hT.1
  unfold wp_X2_signAt
  rw [nI_clamp (show p < 2 ^ 31 by omega)]
  refine br_f (nI_pos (by omega)) ?_
  by_cases c : p < t
  · rw [if_pos c] at h
    refine br_f (nI_ge c (by omega)) ⟨in_nI (by omega) (by omega), ?_⟩
    rw [(hT.2 p c).1]; exact h
  · rw [if_neg c] at h
    exact br_t (nI_le (by omega) (by omega)) h
theorem dg_X {N t p : Nat} {s : Nat → Nat} {f : Nat → Int32} {Φ : Int32 → Prop} (hT : TP s t f) (h1 : dg s t p = true → Φ 1) (h0 : dg s t p = false → Φ 0) : wp_X7_isDigit N (sgv s t p) Φ := by
  unfold sgv wp_X7_isDigit
  by_cases c : p < t
  · rw [if_pos c]
    have hs := (hT.2 p c).2
    refine br_c (fun d => h0 (dg_false ?_)) (fun d => br_c (fun e => h0 (dg_false ?_)) (fun e => h1 (dg_true.mpr ?_)))
    · have := (nI_ltI (b := 48) (by omega) (by omega)).mp d
      omega
    · have := (nI_ltI (a := 57) (by omega) (by omega)).mp e
      omega
    · refine ⟨c, ?_, ?_⟩
      · rcases Nat.lt_or_ge (s p) 48 with z | z
        · exact absurd (nI_lt (b := 48) z (by omega)) d
        · exact z
      · rcases Nat.lt_or_ge 57 (s p) with z | z
        · exact absurd (nI_lt (a := 57) z (by omega)) e
        · exact z
  · rw [if_neg c]
    exact br_t (by decide) (h0 (dg_false (by omega)))
theorem sgv_dg {s : Nat → Nat} {t p : Nat} (h : dg s t p = true) : sgv s t p = nI (s p) ∧ 48 ≤ s p ∧ s p ≤ 57 := by
  obtain ⟨a, b, c⟩ := dg_true.mp h
  exact ⟨if_pos a, b, c⟩
/-- takeNumber of the class -/
theorem tn2_X {N t p rd : Nat} {s : Nat → Nat} {f nb : Nat → Int32} {Φ : Int32 → Int32 → Int32 → (Nat → Int32) → Prop} (hT : TP s t f) (hp : p < 900) (hrd : rd < 2) (hno : nm true s t p = none → Φ 0 (nI rd) (nI p) nb) (hok : ∀ v p', nm true s t p = some (v, p') → Φ 1 (nI (rd + 1)) (nI p') (upd nb rd (nI v))) : wp_X7_takeNumber N 1 (nI rd) (nI p) nb (nI t) f Φ := by
  unfold wp_X7_takeNumber
  refine sg_X hT (by omega) (dg_X hT (fun d => ?_) (fun d => br_t rfl (hno ?_)))
  · obtain ⟨d1, d2, d3⟩ := sgv_dg d
    have e48 : nI (s p) - 48 = nI (s p - 48) := pk_sub (b := 48) d2
    rw [d1, e48, nI_1 p, nI_1 (p + 1), nI_1 rd, nI_clamp (show rd < 2 ^ 31 by omega)]
    refine br_f (by decide) (br_t (nI_lt (b := 2) hrd (by omega)) (sg_X hT (by omega) (br_f (by decide) (dg_X hT (fun d2 => ?_) (fun d2 => ?_)))))
    · obtain ⟨g1, g2, g3⟩ := sgv_dg d2
      have e10 : nI (s p - 48) * 10 + sgv s t (p + 1) - 48 = nI ((s p - 48) * 10 + (s (p + 1) - 48)) := by
        rw [g1, show nI (s p - 48) * 10 = nI ((s p - 48) * 10) from pk_mul _ 10, nI_add]
        rw [show (s p - 48) * 10 + (s (p + 1) - 48) = (s p - 48) * 10 + s (p + 1) - 48 by omega]
        exact pk_sub (b := 48) (by omega)
      rw [e10]
      refine br_f (by decide) ⟨in_nI hrd (by omega), hok _ _ ?_⟩
      unfold nm
      rw [if_pos d, if_pos (by rw [d2]; rfl)]
    · refine br_t rfl ⟨in_nI hrd (by omega), hok _ _ ?_⟩
      unfold nm
      rw [if_pos d, if_neg (by rw [d2]; simp)]
  · unfold nm; rw [if_neg (by rw [d]; simp)]
theorem tn1_X {N t p rd : Nat} {s : Nat → Nat} {f nb : Nat → Int32} {Φ : Int32 → Int32 → Int32 → (Nat → Int32) → Prop} (hT : TP s t f) (hp : p < 900) (hrd : rd < 2) (hno : nm false s t p = none → Φ 0 (nI rd) (nI p) nb) (hok : ∀ v p', nm false s t p = some (v, p') → Φ 1 (nI (rd + 1)) (nI p') (upd nb rd (nI v))) : wp_X7_takeNumber N 0 (nI rd) (nI p) nb (nI t) f Φ := by
  unfold wp_X7_takeNumber
  refine sg_X hT (by omega) (dg_X hT (fun d => ?_) (fun d => br_t rfl (hno ?_)))
  · obtain ⟨d1, d2, d3⟩ := sgv_dg d
    have e48 : nI (s p) - 48 = nI (s p - 48) := pk_sub (b := 48) d2
    rw [d1, e48, nI_1 p, nI_1 rd, nI_clamp (show rd < 2 ^ 31 by omega)]
    refine br_f (by decide) (br_t (nI_lt (b := 2) hrd (by omega)) (sg_X hT (by omega) (br_t rfl ⟨in_nI hrd (by omega), hok _ _ ?_⟩)))
    unfold nm
    rw [if_pos d]
    rfl
  · unfold nm; rw [if_neg (by rw [d]; simp)]
/-! texts of the class -/
theorem ch_ok {i k c : Nat} {N : Nat} {Φ : Int32 → Prop} (hk : k < lenJ.getD i 0) (hl : lenJ.getD i 0 ≤ 5) (hb : (bytJ.getD i []).getD k 0 = nI c) (hc : c < 128) (h : Φ (nI c)) : wp_J0_charAt_5068e N i (nI k) Φ := by
  have hz : ∀ c, c < 128 → (((nI c &&& 255)).toUInt32 % 65536).toInt32 = nI c := by decide +kernel
  have hn : ∀ c, c < 128 → narrow .char (.int (nI c)) = .int (nI c) := fun c hc => (pk_charN (show c < 65536 by omega)).1
  unfold wp_J0_charAt_5068e wp_J1_charAt_3b067 wp_J0_checkIndex_df160 wp_J3_checkIndex_8e157
  rw [nI_clamp (show k < 2 ^ 31 by omega), hb, hz c hc]
  exact br_f (nI_pos (by omega)) (br_t (nI_lt (b := lenJ.getD i 0) hk (by omega)) ⟨in_nI hk (by omega), hn c hc, hn c hc, h⟩)
theorem io_loop {N i len c : Nat} {b : Nat → Nat} {y : Int32} {Φ : Int32 → Prop} (hlen : lenJ.getD i 0 = len) (hl : len ≤ 5) (hb : ∀ j, j < len → ((bytJ.getD i []).getD j 0 = y ↔ b j = c)) :
    ∀ (l j fuel : Nat), j + l = len → l < fuel → Φ (match fi b c l j with | none => -1 | some k => nI k) → lp_J1_indexOfChar_4cfef_7 N i (nI len) y Φ fuel (nI j) := by
  intro l
  induction l with
  | zero =>
    intro j fuel hj hf h
    obtain ⟨z, rfl⟩ : ∃ z, fuel = z + 1 := ⟨fuel - 1, by omega⟩
    rw [lp_J1_indexOfChar_4cfef_7]
    exact br_t (nI_le (by omega) (by omega)) h
  | succ l ih =>
    intro j fuel hj hf h
    obtain ⟨z, rfl⟩ : ∃ z, fuel = z + 1 := ⟨fuel - 1, by omega⟩
    rw [fi] at h
    rw [lp_J1_indexOfChar_4cfef_7, nI_1 j, nI_clamp (show j < 2 ^ 31 by omega), hlen]
    refine br_f (nI_ge (by omega) (by omega)) ⟨in_nI (by omega) (by omega), br_c (fun d => ?_) (fun d => ?_)⟩
    · rw [if_pos ((hb j (by omega)).mp d)] at h; exact h
    · rw [if_neg (fun e => d ((hb j (by omega)).mpr e))] at h
      exact ih (j + 1) z (by omega) (by omega) h
theorem io_X {N i c : Nat} {b : Nat → Nat} {Φ : Int32 → Prop} (hN : 100 < N) (hi : i = 5 ∨ i = 6) (hc : c < 256) (hb : ∀ j, j < 5 → ((bytJ.getD i []).getD j 0 = ((nI c).toUInt32 % 65536).toInt32.toInt8.toInt32 ↔ b j = c)) (h : Φ (match fi b c 5 0 with | none => -1 | some k => nI k)) : wp_J0_indexOf_0f7a4 N i (((nI c).toUInt32 % 65536).toInt32) Φ := by
  have hlen : lenJ.getD i 0 = 5 := by rcases hi with rfl | rfl <;> rfl
  have hz : ∀ c, c < 256 → ((nI c).toUInt32 % 65536).toInt32 = nI c := by decide +kernel
  unfold wp_J0_indexOf_0f7a4 wp_J0_indexOf_7cf53 wp_J0_length_8abf5 wp_J1_indexOf_4cfef wp_J1_canEncode_9a6ad wp_J1_indexOfChar_4cfef
  rw [hz c hc] at hb ⊢
  rw [hlen, show Int32.ofNat 5 >>> (0 &&& 31) = nI 5 by decide +kernel]
  dsimp only
  rw [show (if (0 : Int32) < 0 then (0 : Int32) else 0) = 0 by decide, show (if Int32.ofNat 5 < nI 5 then Int32.ofNat 5 else nI 5) = nI 5 by decide]
  refine br_f (nI_pos (by omega)) (br_f (nI_nlt (a := 255) (by omega) (by omega)) (br_f (by decide) (br_t (by decide) ?_)))
  exact io_loop hlen (by omega) hb 5 0 N (by omega) (by omega) h
theorem rd_by : ∀ c, c < 256 → ∀ j, j < 5 → ((bytJ.getD 5 []).getD j 0 = ((nI c).toUInt32 % 65536).toInt32.toInt8.toInt32 ↔ rb j = c) := by decide +kernel
theorem ld_by : ∀ c, c < 256 → ∀ j, j < 5 → ((bytJ.getD 6 []).getD j 0 = ((nI c).toUInt32 % 65536).toInt32.toInt8.toInt32 ↔ lb j = c) := by decide +kernel
/-- takePart of the class, by the parts' signs -/
theorem tp1_X {N t p rd : Nat} {s : Nat → Nat} {f nb : Nat → Int32} {reader : Int32} {Φ : Int32 → Int32 → Int32 → Int32 → (Nat → Int32) → Prop} (hT : TP s t f) (hp : p < 900) (hrd : rd < 2) (hno : nm false s t p = none → Φ 0 (nI rd) reader (nI p) nb) (hok : ∀ v p', nm false s t p = some (v, p') → Φ 1 (nI (rd + 1)) reader (nI p') (upd nb rd (nI v))) : wp_X7_takePart N (nI 57) (nI rd) reader (nI p) nb (nI t) f Φ := by
  unfold wp_X7_takePart
  exact sg_X hT (by omega) (br_t rfl (br_f (by decide) (tn1_X hT hp hrd (fun e => ⟨Or.inl rfl, hno e⟩) (fun v p' e => ⟨Or.inr rfl, hok v p' e⟩))))
theorem tp2_X {N t p rd : Nat} {s : Nat → Nat} {f nb : Nat → Int32} {reader : Int32} {Φ : Int32 → Int32 → Int32 → Int32 → (Nat → Int32) → Prop} (hT : TP s t f) (hp : p < 900) (hrd : rd < 2) (hno : nm true s t p = none → Φ 0 (nI rd) reader (nI p) nb) (hok : ∀ v p', nm true s t p = some (v, p') → Φ 1 (nI (rd + 1)) reader (nI p') (upd nb rd (nI v))) : wp_X7_takePart N (nI 35) (nI rd) reader (nI p) nb (nI t) f Φ := by
  unfold wp_X7_takePart
  exact sg_X hT (by omega) (br_f (by decide) (br_t rfl (br_t rfl (tn2_X hT hp hrd (fun e => ⟨Or.inl rfl, hno e⟩) (fun v p' e => ⟨Or.inr rfl, hok v p' e⟩)))))
theorem tpL_X {N t p c : Nat} {s : Nat → Nat} {f nb : Nat → Int32} {read reader : Int32} {Φ : Int32 → Int32 → Int32 → Int32 → (Nat → Int32) → Prop} (hT : TP s t f) (hp : p < 900) (hc : c = 44 ∨ c = 59) (hno : lit c s t p = false → Φ 0 read reader (nI p) nb) (hok : lit c s t p = true → Φ 1 read reader (nI (p + 1)) nb) : wp_X7_takePart N (nI c) read reader (nI p) nb (nI t) f Φ := by
  unfold wp_X7_takePart
  rw [nI_1 p]
  have h1 : ¬ nI c = 57 := by rcases hc with rfl | rfl <;> decide
  have h2 : ¬ nI c = 35 := by rcases hc with rfl | rfl <;> decide
  have h3 : ¬ nI c = 107 := by rcases hc with rfl | rfl <;> decide
  refine sg_X hT (by omega) (br_f h1 (br_f h2 (br_f h3 ?_)))
  unfold sgv
  by_cases d : p < t
  · rw [if_pos d]
    have hs := (hT.2 p d).2
    have hc' : c < 100 := by omega
    refine br_c (fun e => hok ?_) (fun e => hno (lit_no (fun z => e (by rw [z.2]))))
    unfold lit
    rw [decide_eq_true d, decide_eq_true ((nI_eq (by omega) (by omega)).mp e)]
    rfl
  · rw [if_neg d]
    refine br_f ?_ (hno (lit_no (fun z => d z.1)))
    rcases hc with rfl | rfl <;> decide
theorem tpR_X {N t p : Nat} {s : Nat → Nat} {f nb : Nat → Int32} {read reader : Int32} {Φ : Int32 → Int32 → Int32 → Int32 → (Nat → Int32) → Prop} (hN : 100 < N) (hT : TP s t f) (hp : p < 900) (hno : rdK s t p = none → Φ 0 read (-1) (nI p) nb) (hok : ∀ v, rdK s t p = some v → Φ 1 read (nI v) (nI (p + 1)) nb) : wp_X7_takePart N (nI 107) read reader (nI p) nb (nI t) f Φ := by
  unfold wp_X7_takePart
  rw [nI_1 p]
  refine sg_X hT (by omega) (br_f (by decide) (br_f (by decide) (br_t rfl ?_)))
  unfold sgv
  by_cases d : p < t
  · rw [if_pos d]
    have hs := (hT.2 p d).2
    refine br_t (nI_pos' (by omega)) (io_X hN (Or.inl rfl) hs (rd_by _ hs) ?_)
    cases e : fi rb (s p) 5 0 with
    | none =>
      have e' : rdK s t p = none := by unfold rdK; rw [if_pos d, e]
      exact br_f (by decide) (hno e')
    | some k =>
      have hk := fi_bd _ _ _ e
      have e' : rdK s t p = some k := by unfold rdK; rw [if_pos d, e]
      exact br_t (nI_pos' (by omega)) (hok k e')
  · rw [if_neg d]
    have e' : rdK s t p = none := by unfold rdK; rw [if_neg d]
    exact br_f (by decide) (hno e')
/-! the reference's parts -/
theorem fg1_M {N t p : Nat} {s : Nat → Nat} {f : Nat → Int32} {Φ : Int32 → Int32 → Int32 → Prop} (hN : 100 < N) (hT : TP s t f) (hp : p < 900) (hno : nm false s t p = none → Φ 0 (nI p) 0) (hok : ∀ v p', nm false s t p = some (v, p') → Φ (nI v) (nI p') 1) : wp_X12_figures N 1 (nI t) (nI p) 1 f Φ := by
  obtain ⟨z, rfl⟩ : ∃ z, N = z + 2 := ⟨N - 2, by omega⟩
  have ht := hT.1
  have hno' : dg s t p = false → Φ 0 (nI p) 0 := fun d => hno (by unfold nm; rw [if_neg (by rw [d]; simp)])
  unfold wp_X12_figures
  rw [lp_X12_figures_4, nI_clamp (show p < 2 ^ 31 by omega)]
  refine br_f (by decide) (br_f (by decide) ?_)
  by_cases c : p < t
  · obtain ⟨q1, q2⟩ := hT.2 p c
    have v64 : vp_in (nI p) 64 := in_nI (by omega) (by omega)
    rw [q1]
    refine br_f (nI_ge c (by omega)) ⟨v64, br_c (fun d => br_t rfl (hno' (dg_false ?_))) (fun d => ⟨v64, br_c (fun e => br_t rfl (hno' (dg_false ?_))) (fun e => ⟨v64, ?_⟩)⟩)⟩
    · have := (nI_ltI (b := 48) (by omega) (by omega)).mp d
      omega
    · have := (nI_ltI (a := 57) (by omega) (by omega)).mp e
      omega
    · have g1 : 48 ≤ s p := by
        rcases Nat.lt_or_ge (s p) 48 with y | y
        · exact absurd (nI_lt (b := 48) y (by omega)) d
        · exact y
      have g2 : s p ≤ 57 := by
        rcases Nat.lt_or_ge 57 (s p) with y | y
        · exact absurd (nI_lt (a := 57) y (by omega)) e
        · exact y
      have ev : (10 : Int32) * 0 + nI (s p) - 48 = nI (s p - 48) := by
        rw [show (10 : Int32) * 0 = nI 0 by decide, nI_add, Nat.zero_add]; exact pk_sub (b := 48) g1
      rw [ev, nI_1 p, lp_X12_figures_4]
      refine br_f (by decide) (br_t (by decide) (br_f (by decide) (hok _ _ ?_)))
      unfold nm
      rw [if_pos (dg_true.mpr ⟨c, g1, g2⟩)]
      rfl
  · exact br_t (nI_le (by omega) (by omega)) (br_t rfl (hno' (dg_false (by omega))))
theorem fg2_M {N t p : Nat} {s : Nat → Nat} {f : Nat → Int32} {Φ : Int32 → Int32 → Int32 → Prop} (hN : 100 < N) (hT : TP s t f) (hp : p < 900) (hno : nm true s t p = none → Φ 0 (nI p) 0) (hok : ∀ v p', nm true s t p = some (v, p') → Φ (nI v) (nI p') 1) : wp_X12_figures N 2 (nI t) (nI p) 1 f Φ := by
  obtain ⟨z, rfl⟩ : ∃ z, N = z + 3 := ⟨N - 3, by omega⟩
  have ht := hT.1
  have hno' : dg s t p = false → Φ 0 (nI p) 0 := fun d => hno (by unfold nm; rw [if_neg (by rw [d]; simp)])
  unfold wp_X12_figures
  rw [lp_X12_figures_4, nI_clamp (show p < 2 ^ 31 by omega)]
  refine br_f (by decide) (br_f (by decide) ?_)
  by_cases c : p < t
  · obtain ⟨q1, q2⟩ := hT.2 p c
    have v64 : vp_in (nI p) 64 := in_nI (by omega) (by omega)
    rw [q1]
    refine br_f (nI_ge c (by omega)) ⟨v64, br_c (fun d => br_t rfl (hno' (dg_false ?_))) (fun d => ⟨v64, br_c (fun e => br_t rfl (hno' (dg_false ?_))) (fun e => ⟨v64, ?_⟩)⟩)⟩
    · have := (nI_ltI (b := 48) (by omega) (by omega)).mp d
      omega
    · have := (nI_ltI (a := 57) (by omega) (by omega)).mp e
      omega
    · have g1 : 48 ≤ s p := by
        rcases Nat.lt_or_ge (s p) 48 with y | y
        · exact absurd (nI_lt (b := 48) y (by omega)) d
        · exact y
      have g2 : s p ≤ 57 := by
        rcases Nat.lt_or_ge 57 (s p) with y | y
        · exact absurd (nI_lt (a := 57) y (by omega)) e
        · exact y
      have hd := dg_true.mpr ⟨c, g1, g2⟩
      have ev : (10 : Int32) * 0 + nI (s p) - 48 = nI (s p - 48) := by
        rw [show (10 : Int32) * 0 = nI 0 by decide, nI_add, Nat.zero_add]; exact pk_sub (b := 48) g1
      have one : dg s t (p + 1) = false → Φ (nI (s p - 48)) (nI (p + 1)) 1 := fun d2 => hok _ _ (by
        unfold nm
        rw [if_pos hd, if_neg (by rw [d2]; simp)])
      rw [ev, nI_1 p, lp_X12_figures_4, nI_clamp (show p + 1 < 2 ^ 31 by omega)]
      refine br_f (by decide) (br_f (by decide) ?_)
      by_cases c2 : p + 1 < t
      · obtain ⟨w1, w2⟩ := hT.2 (p + 1) c2
        have v64' : vp_in (nI (p + 1)) 64 := in_nI (by omega) (by omega)
        rw [w1]
        refine br_f (nI_ge c2 (by omega)) ⟨v64', br_c (fun d2 => br_f (by decide) (one (dg_false ?_))) (fun d2 => ⟨v64', br_c (fun e2 => br_f (by decide) (one (dg_false ?_))) (fun e2 => ⟨v64', ?_⟩)⟩)⟩
        · have := (nI_ltI (b := 48) (by omega) (by omega)).mp d2
          omega
        · have := (nI_ltI (a := 57) (by omega) (by omega)).mp e2
          omega
        · have h1 : 48 ≤ s (p + 1) := by
            rcases Nat.lt_or_ge (s (p + 1)) 48 with y | y
            · exact absurd (nI_lt (b := 48) y (by omega)) d2
            · exact y
          have h2 : s (p + 1) ≤ 57 := by
            rcases Nat.lt_or_ge 57 (s (p + 1)) with y | y
            · exact absurd (nI_lt (a := 57) y (by omega)) e2
            · exact y
          have hd2 := dg_true.mpr ⟨c2, h1, h2⟩
          have ev2 : (10 : Int32) * nI (s p - 48) + nI (s (p + 1)) - 48 = nI ((s p - 48) * 10 + (s (p + 1) - 48)) := by
            rw [show (10 : Int32) * nI (s p - 48) = nI (10 * (s p - 48)) from pk_mul 10 _, nI_add]
            rw [show (s p - 48) * 10 + (s (p + 1) - 48) = 10 * (s p - 48) + s (p + 1) - 48 by omega]
            exact pk_sub (b := 48) (by omega)
          rw [ev2, nI_1 (p + 1), lp_X12_figures_4]
          refine br_f (by decide) (br_t (by decide) (br_f (by decide) (hok _ _ ?_)))
          unfold nm
          rw [if_pos hd, if_pos (by rw [hd2]; rfl)]
      · exact br_t (nI_le (by omega) (by omega)) (br_f (by decide) (one (dg_false (by omega))))
  · exact br_t (nI_le (by omega) (by omega)) (br_t rfl (hno' (dg_false (by omega))))
theorem fg0_M {N : Nat} {k : Int32} {v t : Int32} {f : Nat → Int32} {Φ : Int32 → Int32 → Int32 → Prop} (hN : 100 < N) (h : Φ 0 v 0) : wp_X12_figures N k t v 0 f Φ := by
  obtain ⟨z, rfl⟩ : ∃ z, N = z + 1 := ⟨N - 1, by omega⟩
  unfold wp_X12_figures
  rw [lp_X12_figures_4]
  exact br_t rfl (br_t rfl h)
theorem cm_M {N t p c : Nat} {s : Nat → Nat} {f : Nat → Int32} {Φ : Int32 → Prop} (hT : TP s t f) (hp : p < 900) (hc : c < 256) (h1 : lit c s t p = true → Φ 1) (h0 : lit c s t p = false → Φ 0) : wp_X12_comes N (nI c) (nI t) (nI p) f Φ := by
  have ht := hT.1
  unfold wp_X12_comes
  rw [nI_clamp (show p < 2 ^ 31 by omega)]
  by_cases d : p < t
  · obtain ⟨q1, q2⟩ := hT.2 p d
    rw [q1]
    refine br_f (nI_ge d (by omega)) ⟨in_nI (by omega) (by omega), br_c (fun e => h1 ?_) (fun e => h0 (lit_no (fun z => e (by rw [z.2]))))⟩
    unfold lit
    rw [decide_eq_true d, decide_eq_true ((nI_eq (by omega) (by omega)).mp e)]
    rfl
  · exact br_t (nI_le (by omega) (by omega)) (h0 (lit_no (fun z => d z.1)))
theorem ex_M {N t p c : Nat} {s : Nat → Nat} {f : Nat → Int32} {Φ : Int32 → Int32 → Prop} (hT : TP s t f) (hp : p < 900) (hc : c < 256) (hno : lit c s t p = false → Φ (nI p) 0) (hok : lit c s t p = true → Φ (nI (p + 1)) 1) : wp_X12_expect N (nI c) (nI t) (nI p) 1 f Φ := by
  unfold wp_X12_expect
  rw [nI_1 p]
  exact br_f (by decide) (cm_M hT hp hc (fun e => br_f (by decide) (hok e)) (fun e => br_t rfl (hno e)))
theorem ex0_M {N : Nat} {c t v : Int32} {f : Nat → Int32} {Φ : Int32 → Int32 → Prop} (h : Φ v 0) : wp_X12_expect N c t v 0 f Φ := br_t rfl h
theorem oo_M {N t p n : Nat} {s b : Nat → Nat} {f F : Nat → Int32} {Φ : Int32 → Int32 → Int32 → Prop} (hN : 100 < N) (hT : TP s t f) (hp : p < 900) (hn : n ≤ 7) (hF : ∀ j, j < n → F j = nI (b j) ∧ b j < 256) (hno : (p < t → fi b (s p) n 0 = none) → Φ 0 (nI p) 0) (hok : ∀ k, p < t → fi b (s p) n 0 = some k → Φ (nI k) (nI (p + 1)) 1) : wp_X12_oneOf N n (nI t) (nI p) 1 f F Φ := by
  have fin : ∀ k, k < n → p < t → fi b (s p) n 0 = some k → ex_X12_oneOf_39 N n (nI k) (nI t) (nI p) 1 f F Φ := fun k hk hpt e => by
    unfold ex_X12_oneOf_39
    rw [nI_1 p]
    exact br_t (nI_pos' (by omega)) (hok k hpt e)
  have L : ∀ (l j fuel : Nat), j + l = n → l + 1 < fuel → (p < t → fi b (s p) l j = fi b (s p) n 0) → lp_X12_oneOf_4 N n (nI t) (nI p) 1 f F Φ (fun x2 => ex_X12_oneOf_39 N n x2 (nI t) (nI p) 1 f F Φ) fuel (-1) (nI j) := by
    intro l
    induction l with
    | zero =>
      intro j fuel hj hf he
      obtain ⟨z, rfl⟩ : ∃ z, fuel = z + 1 := ⟨fuel - 1, by omega⟩
      rw [lp_X12_oneOf_4]
      refine br_t (nI_le (a := n) (b := j) (by omega) (by omega)) (br_f (by decide) (hno (fun y => ?_)))
      rw [← he y]; rfl
    | succ l ih =>
      intro j fuel hj hf he
      obtain ⟨z, rfl⟩ : ∃ z, fuel = z + 1 := ⟨fuel - 1, by omega⟩
      obtain ⟨F1, F2⟩ := hF j (by omega)
      rw [lp_X12_oneOf_4, nI_1 j, nI_clamp (show j < 2 ^ 31 by omega), F1]
      refine br_f (nI_ge (a := j) (b := n) (by omega) (by omega)) (br_f (by decide) (br_f (by decide) ⟨in_nI (by omega) (by omega), cm_M hT hp F2 (fun e => br_f (by decide) ?_) (fun e => br_t rfl (ih (j + 1) z (by omega) (by omega) (fun y => ?_)))⟩))
      · obtain ⟨z, rfl⟩ : ∃ y, z = y + 1 := ⟨z - 1, by omega⟩
        obtain ⟨y1, y2⟩ := lit_bd e
        have hk : fi b (s p) n 0 = some j := by
          rw [← he y1, fi, if_pos y2.symm]
        have := fin j (by omega) y1 hk
        rw [lp_X12_oneOf_4]
        exact br_c (fun _ => this) (fun _ => br_f (by decide) (br_t (nI_pos' (by omega)) this))
      · rw [← he y, fi, if_neg (fun z2 => ?_)]
        have : lit (b j) s t p = true := by
          unfold lit
          rw [decide_eq_true y, decide_eq_true z2.symm]; rfl
        rw [this] at e; cases e
  exact L n 0 N (by omega) (by omega) (fun _ => rfl)
theorem oo0_M {N n : Nat} {t v : Int32} {f F : Nat → Int32} {Φ : Int32 → Int32 → Int32 → Prop} (hN : 100 < N) (hn : n ≤ 7) (h : Φ 0 v 0) : wp_X12_oneOf N n t v 0 f F Φ := by
  obtain ⟨z, rfl⟩ : ∃ z, N = z + 1 := ⟨N - 1, by omega⟩
  unfold wp_X12_oneOf
  rw [lp_X12_oneOf_4]
  exact br_c (fun _ => br_f (by decide) h) (fun _ => br_t rfl (br_f (by decide) h))
