/-! stones: how often a word is there -/
def cn (f : Nat → Option Nat) (v : Nat) : Nat → Nat
  | 0 => 0
  | i + 1 => cn f v i + (if f i = some v then 1 else 0)
theorem cn_le {f : Nat → Option Nat} {v : Nat} : ∀ i, cn f v i ≤ i := by
  intro i
  induction i with
  | zero => exact Nat.le_refl _
  | succ i ih => rw [cn]; split <;> omega
theorem bit_eq {a b : Nat} (h : ∀ v, a.testBit v = true ↔ b.testBit v = true) : a = b := Nat.eq_of_testBit_eq (fun i => Bool.eq_iff_iff.mpr (h i))
theorem i_or0 (x : Int32) : x ||| 0 = x := by
  apply Int32.toBitVec_inj.mp
  rw [Int32.toBitVec_or]
  show x.toBitVec ||| 0#32 = x.toBitVec
  exact BitVec.or_zero
theorem lack_X {N w n : Nat} {st : Nat → Nat} {row : Nat → Option Nat} {stocks p1 : Nat → Int32} {Φ : Int32 → (Nat → Int32) → Prop} (hR : RW w n 12 row p1) (hw : w ≤ 6) (hst : ∀ v, v < w → stocks v = nI (st v) ∧ st v ≤ 9)
    (hk : ∀ B tally, B < 64 → (∀ v, B.testBit v = true ↔ v < w ∧ st v < cn row v n) → Φ (nI B) tally) :
    ∀ (l i fuel B : Nat) (tally : Nat → Int32), i + l = n → l < fuel → B < 64 → (∀ v, B.testBit v = true ↔ v < w ∧ st v < cn row v i) → (∀ v, v < w → tally v = nI (cn row v i)) → lp_X11_lacking_13 N 12 (nI n) (nI w) stocks p1 Φ fuel (nI B) (nI i) tally := by
  have hn := hR.1
  intro l
  induction l with
  | zero =>
    intro i fuel B tally hi hf hB hb ht
    obtain ⟨z, rfl⟩ : ∃ z, fuel = z + 1 := ⟨fuel - 1, by omega⟩
    rw [lp_X11_lacking_13]
    obtain rfl : i = n := by omega
    exact br_t (nI_le (by omega) (by omega)) (hk B tally hB hb)
  | succ l ih =>
    intro i fuel B tally hi hf hB hb ht
    obtain ⟨z, rfl⟩ : ∃ z, fuel = z + 1 := ⟨fuel - 1, by omega⟩
    obtain ⟨q1, q2⟩ := hR.2.2 i (by omega)
    rw [lp_X11_lacking_13, nI_clamp (show i < 2 ^ 31 by omega), q1, nI_1 i]
    refine br_f (nI_ge (by omega) (by omega)) ⟨in_nI (by omega) (by omega), ?_⟩
    cases e : row i with
    | none =>
      have ec : ∀ v, cn row v (i + 1) = cn row v i := fun v => by rw [cn, e]; simp
      exact hw_none (br_t rfl (ih (i + 1) z B tally (by omega) (by omega) hB (fun v => by rw [ec]; exact hb v) (fun v hv => by rw [ec]; exact ht v hv)))
    | some u =>
      have hu := q2 u e
      have ecu : cn row u (i + 1) = cn row u i + 1 := by rw [cn, e]; simp
      have ecn : ∀ v, v ≠ u → cn row v (i + 1) = cn row v i := fun v hv => by
        rw [cn, e, if_neg (fun y => hv (Option.some.inj y).symm)]; omega
      have hcv : (ow (some u)).toNatClampNeg = u := nI_clamp (show u < 2 ^ 31 by omega)
      have v6 : vp_in (nI u) 6 := in_nI (by omega) (by omega)
      have hcl := cn_le (f := row) (v := u) (i + 1)
      obtain ⟨s1, s2⟩ := hst u hu
      show wp_X8_hasWord N (nI u) _ _
      refine hw_some hu (by omega) (br_f (by decide) ⟨v6, v6, v6, v6, ?_⟩)
      rw [hcv, pk_us, ht u hu, s1, nI_1 (cn row u i), ← ecu]
      have ht' : ∀ v, v < w → upd tally u (nI (cn row u (i + 1))) v = nI (cn row v (i + 1)) := fun v hv => by
        by_cases y : v = u
        · subst y; rw [pk_us]
        · rw [pk_un y, ecn v y]; exact ht v hv
      refine br_c (fun c => ?_) (fun c => ?_)
      · have c' : cn row u (i + 1) ≤ st u := (nI_leI (by omega) (by omega)).mp c
        refine ih (i + 1) z B _ (by omega) (by omega) hB (fun v => ?_) ht'
        rw [hb]
        by_cases y : v = u
        · subst y
          constructor
          · rintro ⟨y1, y2⟩; omega
          · rintro ⟨y1, y2⟩; omega
        · rw [ecn v y]
      · have c' : st u < cn row u (i + 1) := by
          rcases Nat.lt_or_ge (st u) (cn row u (i + 1)) with y | y
          · exact y
          · exact absurd (nI_le y (by omega)) c
        show lp_X11_lacking_13 N 12 (nI n) (nI w) stocks p1 Φ z (nI B ||| ((1 : Int32) <<< (nI u &&& 31))) _ _
        have hp : 2 ^ u < 2 ^ 6 := Nat.pow_lt_pow_right (by omega) (by omega)
        rw [sh1 _ (by omega), nI_or _ _ (by omega) (by omega)]
        refine ih (i + 1) z _ _ (by omega) (by omega) (or_bound (k := 6) hB (by omega)) (fun v => ?_) ht'
        rw [tb_or, Bool.or_eq_true, hb, decide_eq_true_iff]
        by_cases y : v = u
        · subst y
          exact ⟨fun _ => ⟨hu, c'⟩, fun _ => Or.inr rfl⟩
        · rw [ecn v y]
          exact ⟨fun y2 => y2.elim id (fun y3 => absurd y3.symm y), Or.inl⟩
theorem lacking_X {N w n : Nat} {st : Nat → Nat} {row : Nat → Option Nat} {stocks p1 tally : Nat → Int32} {Φ : Int32 → (Nat → Int32) → Prop} (hN : 100 < N) (hR : RW w n 12 row p1) (hw : w ≤ 6) (hst : ∀ v, v < w → stocks v = nI (st v) ∧ st v ≤ 9)
    (hk : ∀ B tally, B < 64 → (∀ v, B.testBit v = true ↔ v < w ∧ st v < cn row v n) → Φ (nI B) tally) : wp_X11_lacking N 12 (nI n) (nI w) stocks tally p1 Φ := by
  have hn := hR.1
  refine fill_J (by omega) (by omega) (fun F hF => lack_X hR hw hst hk n 0 N 0 F (by omega) (by omega) (by omega) (fun v => ?_) (fun v hv => hF v (by omega)))
  simp only [Nat.zero_testBit, Bool.false_eq_true, false_iff]
  rintro ⟨_, h⟩
  rw [cn] at h
  omega
theorem cs_M {N w n u : Nat} {rg : Nat → Option Nat} {ring : Nat → Int32} {Φ : Int32 → Prop} {k : Int32 → Prop} (hR : RW w n 12 rg ring) (hw : w ≤ 6) (hu : u < 6) (hk : k (nI (cn rg u n))) :
    ∀ (l i fuel : Nat), i + l = n → l < fuel → lp_X12_stones_17 N (nI u) (nI n) ring Φ k fuel (nI (cn rg u i)) (nI i) := by
  have hn := hR.1
  intro l
  induction l with
  | zero =>
    intro i fuel hi hf
    obtain ⟨z, rfl⟩ : ∃ z, fuel = z + 1 := ⟨fuel - 1, by omega⟩
    rw [lp_X12_stones_17]
    obtain rfl : i = n := by omega
    exact br_t (nI_le (by omega) (by omega)) hk
  | succ l ih =>
    intro i fuel hi hf
    obtain ⟨z, rfl⟩ : ∃ z, fuel = z + 1 := ⟨fuel - 1, by omega⟩
    obtain ⟨q1, q2⟩ := hR.2.2 i (by omega)
    have ih' := ih (i + 1) z (by omega) (by omega)
    rw [cn] at ih'
    rw [lp_X12_stones_17, nI_clamp (show i < 2 ^ 31 by omega), q1, nI_1 i, nI_1 (cn rg u i), nI_p0]
    refine br_f (nI_ge (by omega) (by omega)) ⟨in_nI (by omega) (by omega), ?_⟩
    have hno := nI_ow (a := u) (o := rg i) (by omega) (fun v hv => by have := q2 v hv; omega)
    by_cases c : rg i = some u
    · rw [if_pos c] at ih'
      exact br_t (hno.mpr c.symm).symm ih'
    · rw [if_neg c] at ih'
      exact br_f (fun y => c (hno.mp y.symm).symm) ih'
theorem so_M {N w n : Nat} {st : Nat → Nat} {rg : Nat → Option Nat} {stock ring : Nat → Int32} {Φ : Int32 → Prop} (hN : 100 < N) (hR : RW w n 12 rg ring) (hw : w ≤ 6) (hst : ∀ v, v < w → stock v = nI (st v) ∧ st v ≤ 9)
    (hk : ∀ B, B < 64 → (∀ v, B.testBit v = true ↔ v < w ∧ st v < cn rg v n) → Φ (nI B)) :
    ∀ (l u fuel B : Nat), u + l = w → l < fuel → B < 64 → (∀ v, B.testBit v = true ↔ v < u ∧ st v < cn rg v n) → lp_X12_stones_4 N (nI w) (nI n) stock ring Φ fuel (nI B) (nI u) := by
  have hn := hR.1
  intro l
  induction l with
  | zero =>
    intro u fuel B hi hf hB hb
    obtain ⟨z, rfl⟩ : ∃ z, fuel = z + 1 := ⟨fuel - 1, by omega⟩
    rw [lp_X12_stones_4]
    obtain rfl : u = w := by omega
    exact br_t (nI_le (by omega) (by omega)) (hk B hB hb)
  | succ l ih =>
    intro u fuel B hi hf hB hb
    obtain ⟨z, rfl⟩ : ∃ z, fuel = z + 1 := ⟨fuel - 1, by omega⟩
    rw [lp_X12_stones_4]
    obtain ⟨s1, s2⟩ := hst u (by omega)
    have hcl := cn_le (f := rg) (v := u) n
    refine br_f (nI_ge (by omega) (by omega)) (cs_M hR hw (by omega) ?_ n 0 N (by omega) (by omega))
    unfold ex_X12_stones_51
    rw [nI_clamp (show u < 2 ^ 31 by omega), s1, nI_1 u, sh1 _ (by omega), nI_or0 _ (by omega)]
    have hp : 2 ^ u < 2 ^ 6 := Nat.pow_lt_pow_right (by omega) (by omega)
    rw [nI_or _ _ (by omega) (by omega)]
    refine ⟨in_nI (by omega) (by omega), br_c (fun c => ?_) (fun c => ?_)⟩
    · have c' : cn rg u n ≤ st u := (nI_leI (by omega) (by omega)).mp c
      refine ih (u + 1) z B (by omega) (by omega) hB (fun v => ?_)
      rw [hb]
      constructor
      · rintro ⟨y1, y2⟩; exact ⟨by omega, y2⟩
      · rintro ⟨y1, y2⟩
        rcases Nat.lt_or_ge v u with y | y
        · exact ⟨y, y2⟩
        · rw [show v = u by omega] at y2; omega
    · have c' : st u < cn rg u n := by
        rcases Nat.lt_or_ge (st u) (cn rg u n) with y | y
        · exact y
        · exact absurd (nI_le y (by omega)) c
      refine ih (u + 1) z _ (by omega) (by omega) (or_bound (k := 6) hB (by omega)) (fun v => ?_)
      rw [tb_or, Bool.or_eq_true, hb, decide_eq_true_iff]
      constructor
      · rintro (⟨y1, y2⟩ | y)
        · exact ⟨by omega, y2⟩
        · subst y; exact ⟨by omega, c'⟩
      · rintro ⟨y1, y2⟩
        rcases Nat.lt_or_ge v u with y | y
        · exact Or.inl ⟨y, y2⟩
        · exact Or.inr (by omega)
theorem op24 {N : Nat} (hN : 8000 < N) : zop24 N Inv := by
  intro vi fa wi ga hI
  obtain ⟨w, r, n, q, kd, se, gw, st, rk, re, rw, rg, pa, pb, t, e2, e3, e4, e5, m0, m1, m2, m3, c1, c7, hT, hT', hR, hR', hP, hP', hB, hC, hD, hE0, hE1, hE2, hE3, hE4, hF, hG, hH⟩ := hI
  obtain ⟨⟨hw6, -, -⟩, -, hg⟩ := id hT
  obtain ⟨-, -, hg'⟩ := id hT'
  have hn := hR.1
  rw [e2, e4, m0, m2]
  refine lacking_X (by omega) hR hw6 (fun v hv => (hg v hv).2.2) (fun B tally hB0 hb => ?_)
  refine so_M (by omega) hR' hw6 (fun v hv => (hg' v hv).2.2) (fun B' hB' hb' => ?_) w 0 N 0 (by omega) (by omega) (by omega) (fun v => by simp)
  obtain rfl : B = B' := bit_eq (fun v => by rw [hb, hb'])
  exact ⟨rfl, w, r, n, q, kd, se, gw, st, rk, re, rw, rg, pa, pb, t, (by first | exact e2 | rfl), (by first | exact e3 | rfl), (by first | exact e4 | rfl), (by first | exact e5 | rfl), (by first | exact m0 | rfl), (by first | exact m1 | rfl), (by first | exact m2 | rfl), (by first | exact m3 | rfl), (by first | exact c1 | rfl), (by first | exact c7 | rfl), hT, hT', hR, hR', hP, hP', hB, hC, hD, hE0, hE1, hE2, hE3, hE4, hF, hG, hH⟩
/-! made -/
def mkS (st c : Nat → Nat) : Nat → Bool
  | 0 => true
  | v + 1 => mkS st c v && decide (c v ≤ st v)
theorem mkS_spec (st c : Nat → Nat) : ∀ w, mkS st c w = true ↔ ∀ v, v < w → c v ≤ st v := by
  intro w
  induction w with
  | zero => exact ⟨fun _ v hv => by omega, fun _ => rfl⟩
  | succ w ih =>
    rw [mkS, Bool.and_eq_true, ih, decide_eq_true_iff]
    constructor
    · rintro ⟨a, b⟩ v hv
      rcases Nat.lt_or_ge v w with h | h
      · exact a v h
      · rw [show v = w by omega]; exact b
    · exact fun h => ⟨fun v hv => h v (by omega), h w (by omega)⟩
def okM (st : Nat → Nat) (w n j : Nat) : Bool := mkS st (fun v => cn (sm (itR w n j)) v n) w
theorem zero_iff {B w : Nat} {st c : Nat → Nat} (hb : ∀ v, B.testBit v = true ↔ v < w ∧ st v < c v) (hB : B < 64) : nI B = 0 ↔ mkS st c w = true := by
  rw [mkS_spec]
  constructor
  · intro h v hv
    have h0 : B = 0 := (nI_eq (b := 0) (by omega) (by omega)).mp h
    rcases Nat.lt_or_ge (st v) (c v) with y | y
    · have := (hb v).mpr ⟨hv, y⟩
      rw [h0, Nat.zero_testBit] at this
      cases this
    · exact y
  · intro h
    have : B = 0 := bit_eq (fun v => by
      rw [hb, Nat.zero_testBit]
      constructor
      · rintro ⟨y1, y2⟩; have := h v y1; omega
      · intro y; cases y)
    rw [this]; rfl
theorem md_X {N w n : Nat} {st : Nat → Nat} {stocks F : Nat → Int32} {Φ : Int32 → (Nat → Int32) → (Nat → Int32) → (Nat → Int32) → Prop} (hN : 8000 < N) (hw : w ≤ 6) (hn : 1 ≤ n) (hn4 : n ≤ 4) (hst : ∀ v, v < w → stocks v = nI (st v) ∧ st v ≤ 9) (hΦ : ∀ row tally, Φ (nI (cnt (okM st w n) (w ^ n))) row tally F) :
    ∀ (l j fuel : Nat) (row tally : Nat → Int32), j + l = w ^ n → l < fuel → RN n (itR w n j) row → lp_X11_made_49 N (nI n) (nI w) stocks F Φ fuel (nI (cnt (okM st w n) j)) (nI l) row tally := by
  have hp := pow6 hw (show n ≤ 5 by omega)
  intro l
  induction l with
  | zero =>
    intro j fuel row tally hj hf hR
    obtain ⟨z, rfl⟩ : ∃ z, fuel = z + 1 := ⟨fuel - 1, by omega⟩
    rw [lp_X11_made_49]
    refine br_t (by decide) ?_
    have := hΦ row tally
    rw [show w ^ n = j by omega] at this
    exact this
  | succ l ih =>
    intro j fuel row tally hj hf hR
    obtain ⟨z, rfl⟩ : ∃ z, fuel = z + 1 := ⟨fuel - 1, by omega⟩
    have hw0 : 0 < w := by
      rcases Nat.eq_zero_or_pos w with e | e
      · subst e; rw [Nat.zero_pow (by omega)] at hj; omega
      · exact e
    have hd : ∀ i, i < n → itR w n j i < w := fun i hi => it_dig hw0 j i hi
    have ih' := fun row tally hR => ih (j + 1) z row tally (by omega) (by omega) hR
    rw [cnt] at ih'
    rw [lp_X11_made_49, pk_m1, nI_1]
    refine br_f (nI_nle (by omega) (by omega)) (lacking_X (by omega) (RW_sm (by omega) (by omega) hR hd) hw hst (fun B tally' hB hb => ?_))
    have hz := zero_iff hb hB
    cases e : okM st w n j with
    | true =>
      rw [e] at ih'
      exact br_t (hz.mpr e) (step_X (by omega) (by omega) (by omega) hw hR hd (fun F' hF' => ih' F' tally' hF'))
    | false =>
      rw [e] at ih'
      exact br_f (fun y => by rw [show okM st w n j = true from hz.mp y] at e; cases e) (step_X (by omega) (by omega) (by omega) hw hR hd (fun F' hF' => ih' F' tally' hF'))
theorem mc_M {N n u : Nat} {f : Nat → Nat} {trial : Nat → Int32} {Φ : Int32 → (Nat → Int32) → (Nat → Int32) → Prop} {k : Int32 → Prop} (hn : n ≤ 4) (hR : RN n f trial) (hd : ∀ i, i < n → f i < 100) (hu : u < 6) (hk : k (nI (cn (sm f) u n))) :
    ∀ (l i fuel : Nat), i + l = n → l < fuel → lp_X12_made_58 N (nI n) (nI u) trial Φ k fuel (nI (cn (sm f) u i)) (nI i) := by
  intro l
  induction l with
  | zero =>
    intro i fuel hi hf
    obtain ⟨z, rfl⟩ : ∃ z, fuel = z + 1 := ⟨fuel - 1, by omega⟩
    rw [lp_X12_made_58]
    obtain rfl : i = n := by omega
    exact br_t (nI_le (by omega) (by omega)) hk
  | succ l ih =>
    intro i fuel hi hf
    obtain ⟨z, rfl⟩ : ∃ z, fuel = z + 1 := ⟨fuel - 1, by omega⟩
    have ih' := ih (i + 1) z (by omega) (by omega)
    have hdi := hd i (by omega)
    rw [cn] at ih'
    rw [lp_X12_made_58, nI_clamp (show i < 2 ^ 31 by omega), hR i (by omega), nI_1 i, nI_1 (cn (sm f) u i), nI_p0]
    refine br_f (nI_ge (by omega) (by omega)) ⟨in_nI (by omega) (by omega), ?_⟩
    by_cases c : f i = u
    · rw [if_pos (show sm f i = some u by rw [← c]; rfl)] at ih'
      exact br_t (by rw [c]) ih'
    · rw [if_neg (show ¬ sm f i = some u from fun y => c (Option.some.inj y))] at ih'
      exact br_f (fun y => c ((nI_eq (by omega) (by omega)).mp y)) ih'
theorem mw_M {N w n : Nat} {st : Nat → Nat} {f : Nat → Nat} {stock trial : Nat → Int32} {Φ : Int32 → (Nat → Int32) → (Nat → Int32) → Prop} {k : Int32 → Prop} (hN : 100 < N) (hw : w ≤ 6) (hn : n ≤ 4) (hR : RN n f trial) (hd : ∀ i, i < n → f i < 100) (hst : ∀ v, v < w → stock v = nI (st v) ∧ st v ≤ 9) (hk : k (bI (mkS st (fun v => cn (sm f) v n) w))) :
    ∀ (l u fuel : Nat), u + l = w → l < fuel → lp_X12_made_43 N (nI n) (nI w) stock trial Φ k fuel (bI (mkS st (fun v => cn (sm f) v n) u)) (nI u) := by
  intro l
  induction l with
  | zero =>
    intro u fuel hi hf
    obtain ⟨z, rfl⟩ : ∃ z, fuel = z + 1 := ⟨fuel - 1, by omega⟩
    rw [lp_X12_made_43]
    obtain rfl : u = w := by omega
    exact br_t (nI_le (by omega) (by omega)) hk
  | succ l ih =>
    intro u fuel hi hf
    obtain ⟨z, rfl⟩ : ∃ z, fuel = z + 1 := ⟨fuel - 1, by omega⟩
    have ih' := ih (u + 1) z (by omega) (by omega)
    obtain ⟨s1, s2⟩ := hst u (by omega)
    have hcl := cn_le (f := sm f) (v := u) n
    rw [mkS] at ih'
    rw [lp_X12_made_43]
    refine br_f (nI_ge (by omega) (by omega)) (mc_M hn hR hd (by omega) ?_ n 0 N (by omega) (by omega))
    unfold ex_X12_made_92
    rw [nI_clamp (show u < 2 ^ 31 by omega), s1, nI_1 u]
    cases e : mkS st (fun v => cn (sm f) v n) u with
    | false => rw [e] at ih'; exact br_t rfl ih'
    | true =>
      rw [e] at ih'
      refine br_f (by decide) ⟨in_nI (by omega) (by omega), br_c (fun c => ?_) (fun c => ?_)⟩
      · have c' := (nI_ltI (by omega) (by omega)).mp c
        rw [decide_eq_false (by omega)] at ih'
        exact ih'
      · have c' : cn (sm f) u n ≤ st u := by
          rcases Nat.lt_or_ge (st u) (cn (sm f) u n) with y | y
          · exact absurd (nI_lt y (by omega)) c
          · exact y
        rw [decide_eq_true c'] at ih'
        exact ih'
theorem md_M {N w n : Nat} {st : Nat → Nat} {stock F : Nat → Int32} {Φ : Int32 → (Nat → Int32) → (Nat → Int32) → Prop} (hN : 8000 < N) (hw : w ≤ 6) (hw0 : 0 < w) (hn : 1 ≤ n) (hn4 : n ≤ 4) (hst : ∀ v, v < w → stock v = nI (st v) ∧ st v ≤ 9) (hΦ : ∀ trial, Φ (nI (cnt (okM st w n) (w ^ n))) F trial) :
    ∀ (l j fuel : Nat) (trial : Nat → Int32), j + l + 1 = w ^ n → l < fuel → RN n (itR w n j) trial → lp_X12_made_38 N (nI n) (nI w) F stock Φ fuel (nI (cnt (okM st w n) j)) trial := by
  have hp := pow6 hw (show n ≤ 5 by omega)
  intro l
  induction l with
  | zero =>
    intro j fuel trial hj hf hR
    obtain ⟨z, rfl⟩ : ∃ z, fuel = z + 1 := ⟨fuel - 1, by omega⟩
    have hd : ∀ i, i < n → itR w n j i < w := fun i hi => it_dig hw0 j i hi
    have hmo := it_more (n := n) hw0 (show j < w ^ n by omega)
    rw [decide_eq_false (by omega)] at hmo
    have hE : ∀ F', Φ (nI (cnt (okM st w n) (j + 1))) F F' := by rw [show j + 1 = w ^ n by omega]; exact hΦ
    rw [cnt] at hE
    rw [lp_X12_made_38]
    refine mw_M (by omega) hw (by omega) hR (fun i hi => by have := hd i hi; omega) hst ?_ w 0 N (by omega) (by omega)
    unfold ex_X12_made_120
    rw [nI_p0, nI_1]
    show (bI (okM st w n j) = 0 → _) ∧ (¬ bI (okM st w n j) = 0 → _)
    cases e : okM st w n j with
    | false =>
      rw [e] at hE
      exact br_t rfl (next_M (by omega) (by omega) hw hR hd (fun F' hF' => by rw [hmo]; exact br_t rfl (hE F')))
    | true =>
      rw [e] at hE
      exact br_f (by decide) (next_M (by omega) (by omega) hw hR hd (fun F' hF' => by rw [hmo]; exact br_t rfl (hE F')))
  | succ l ih =>
    intro j fuel trial hj hf hR
    obtain ⟨z, rfl⟩ : ∃ z, fuel = z + 1 := ⟨fuel - 1, by omega⟩
    have hd : ∀ i, i < n → itR w n j i < w := fun i hi => it_dig hw0 j i hi
    have hmo := it_more (n := n) hw0 (show j < w ^ n by omega)
    rw [decide_eq_true (by omega)] at hmo
    have hE := fun F' hF' => ih (j + 1) z F' (by omega) (by omega) hF'
    rw [cnt] at hE
    rw [lp_X12_made_38]
    refine mw_M (by omega) hw (by omega) hR (fun i hi => by have := hd i hi; omega) hst ?_ w 0 N (by omega) (by omega)
    unfold ex_X12_made_120
    rw [nI_p0, nI_1]
    show (bI (okM st w n j) = 0 → _) ∧ (¬ bI (okM st w n j) = 0 → _)
    cases e : okM st w n j with
    | false =>
      rw [e] at hE
      exact br_t rfl (next_M (by omega) (by omega) hw hR hd (fun F' hF' => by rw [hmo]; exact br_f (by decide) (hE F' hF')))
    | true =>
      rw [e] at hE
      exact br_f (by decide) (next_M (by omega) (by omega) hw hR hd (fun F' hF' => by rw [hmo]; exact br_f (by decide) (hE F' hF')))
theorem op25 {N : Nat} (hN : 8000 < N) : zop25 N Inv := by
  intro vi fa wi ga x1 hI
  obtain ⟨w, r, n, q, kd, se, gw, st, rk, re, rw, rg, pa, pb, t, e2, e3, e4, e5, m0, m1, m2, m3, c1, c7, hT, hT', hR, hR', hP, hP', hB, hC, hD, hE0, hE1, hE2, hE3, hE4, hF, hG, hH⟩ := hI
  obtain ⟨⟨hw6, -, -⟩, -, hg⟩ := id hT
  obtain ⟨-, -, hg'⟩ := id hT'
  rw [e2, m0]
  by_cases h1 : 1 ≤ x1
  · rcases out x1 (n := 5) (by omega) with (h | h) | ⟨n0, hn0, rfl⟩
    · exfalso
      have a1 := Int32.le_iff_toInt_le.mp h1
      have a2 := Int32.lt_iff_toInt_lt.mp h
      have c0 : (0 : Int32).toInt = 0 := by decide
      have c1 : (1 : Int32).toInt = 1 := by decide
      omega
    · have h4 := five h
      exact br_t h1 (br_f h4 (ref_X r6 (br_t h1 (br_f h4 (no_M r6 ⟨rfl, w, r, n, q, kd, se, gw, st, rk, re, rw, rg, pa, pb, t, (by first | exact e2 | rfl), (by first | exact e3 | rfl), (by first | exact e4 | rfl), (by first | exact e5 | rfl), (by first | exact m0 | rfl), (by first | exact m1 | rfl), (by first | exact m2 | rfl), (by first | exact m3 | rfl), (by first | exact c1 | rfl), (by first | exact c7 | rfl), hT, hT', hR, hR', hP, hP', RF_up hB r6, hC, hD, hE0, hE1, hE2, hE3, hE4, hF, hG, hH⟩)))))
    · have hn1 : 1 ≤ n0 := (nI_leI (a := 1) (by omega) (by omega)).mp h1
      have h4 : nI n0 ≤ 4 := nI_le (b := 4) (by omega) (by omega)
      have hp := pow6 hw6 (show n0 ≤ 5 by omega)
      have z0 : nI 0 = 0 := nI_0
      refine br_t h1 (br_t h4 (begin_X (by omega) (by omega) (by omega) (fun row hrow => many_X (by omega) (by omega) ?_)))
      refine md_X hN hw6 hn1 (by omega) (fun v hv => (hg v hv).2.2) (fun row tally => br_t h1 (br_t h4 ?_)) (w ^ n0) 0 N row _ (by omega) (by omega) hrow
      rcases Nat.eq_zero_or_pos w with e | hw0
      · subst e
        rw [Nat.zero_pow (by omega)]
        exact br_t (by decide) ⟨rfl, 0, r, n, q, kd, se, gw, st, rk, re, rw, rg, pa, pb, t, (by first | exact e2 | rfl), (by first | exact e3 | rfl), (by first | exact e4 | rfl), (by first | exact e5 | rfl), (by first | exact m0 | rfl), (by first | exact m1 | rfl), (by first | exact m2 | rfl), (by first | exact m3 | rfl), (by first | exact c1 | rfl), (by first | exact c7 | rfl), hT, hT', hR, hR', hP, hP', hB, hC, hD, hE0, hE1, hE2, hE3, hE4, hF, hG, hH⟩
      · refine br_f (nI_nle hw0 (by omega)) (begin_M (by omega) (by omega) (fun F' hF' => ?_))
        have hp0 := pow_pos' (n := n0) hw0
        exact md_M hN hw6 hw0 hn1 (by omega) (fun v hv => (hg' v hv).2.2) (fun trial => ⟨rfl, w, r, n, q, kd, se, gw, st, rk, re, rw, rg, pa, pb, t, (by first | exact e2 | rfl), (by first | exact e3 | rfl), (by first | exact e4 | rfl), (by first | exact e5 | rfl), (by first | exact m0 | rfl), (by first | exact m1 | rfl), (by first | exact m2 | rfl), (by first | exact m3 | rfl), (by first | exact c1 | rfl), (by first | exact c7 | rfl), hT, hT', hR, hR', hP, hP', hB, hC, hD, hE0, hE1, hE2, hE3, hE4, hF, hG, hH⟩) (w ^ n0 - 1) 0 N F' (by omega) (by omega) hF'
  · exact br_f h1 (ref_X r4 (br_f h1 (no_M r4 ⟨rfl, w, r, n, q, kd, se, gw, st, rk, re, rw, rg, pa, pb, t, (by first | exact e2 | rfl), (by first | exact e3 | rfl), (by first | exact e4 | rfl), (by first | exact e5 | rfl), (by first | exact m0 | rfl), (by first | exact m1 | rfl), (by first | exact m2 | rfl), (by first | exact m3 | rfl), (by first | exact c1 | rfl), (by first | exact c7 | rfl), hT, hT', hR, hR', hP, hP', RF_up hB r4, hC, hD, hE0, hE1, hE2, hE3, hE4, hF, hG, hH⟩)))
