/-! towers: draws -/
def sd : Nat → Int32 → Int32
  | 0, s => s
  | k + 1, s => sd k s * 1664525 + 1013904223
def dr (w : Nat) (s : Int32) (k : Nat) : Nat := (sd (k + 1) s).toBitVec.toNat % 2 ^ 31 / 256 % w
theorem draw {w : Nat} (y : Int32) (hw0 : 0 < w) (hw : w ≤ 6) : ((y &&& 2147483647) / 256) - ((y &&& 2147483647) / 256) / nI w * nI w = nI (y.toBitVec.toNat % 2 ^ 31 / 256 % w) := by
  have hlt : y.toBitVec.toNat % 2 ^ 31 < 2 ^ 31 := Nat.mod_lt _ (by omega)
  have e1 : y &&& 2147483647 = nI (y.toBitVec.toNat % 2 ^ 31) := pk_and y 31 (by decide +kernel)
  rw [e1]
  generalize y.toBitVec.toNat % 2 ^ 31 = a at hlt
  have e2 : nI a / 256 = nI (a / 256) := pk_div (d := 256) hlt (by omega) (by omega)
  rw [e2]
  exact pk_rem (by omega) hw0 (by omega)
theorem dr_lt {w : Nat} (hw0 : 0 < w) (s : Int32) (k : Nat) : dr w s k < w := Nat.mod_lt _ hw0
theorem tw_X {N w : Nat} {s : Int32} {Φ : Int32 → (Nat → Int32) → (Nat → Int32) → Prop} {k : Int32 → (Nat → Int32) → Prop} (hw0 : 0 < w) (hw : w ≤ 6) (hk : ∀ row, RN 6 (dr w s) row → k (sd 6 s) row) :
    ∀ (l i fuel : Nat) (row : Nat → Int32), i + l = 6 → l < fuel → RN i (dr w s) row → lp_X11_towers_82 N (nI w) Φ k fuel (sd i s) (nI i) row := by
  intro l
  induction l with
  | zero =>
    intro i fuel row hi hf h
    obtain ⟨z, rfl⟩ : ∃ z, fuel = z + 1 := ⟨fuel - 1, by omega⟩
    rw [lp_X11_towers_82]
    obtain rfl : i = 6 := by omega
    exact br_t (by decide) (hk row h)
  | succ l ih =>
    intro i fuel row hi hf h
    obtain ⟨z, rfl⟩ : ∃ z, fuel = z + 1 := ⟨fuel - 1, by omega⟩
    rw [lp_X11_towers_82, draw _ hw0 hw, nI_1 i, nI_clamp (show i < 2 ^ 31 by omega)]
    refine br_f (nI_ge (b := 6) (by omega) (by omega)) ⟨nI_ne0 hw0 (by omega), in_nI (by omega) (by omega), ih (i + 1) z _ (by omega) (by omega) (fun j hj => ?_)⟩
    by_cases c : j = i
    · subst c; rw [pk_us]; rfl
    · rw [pk_un c]; exact h j (by omega)
theorem tw_M {N w : Nat} {s : Int32} {Φ : Int32 → (Nat → Int32) → (Nat → Int32) → Prop} {k : Int32 → (Nat → Int32) → Prop} (hw0 : 0 < w) (hw : w ≤ 6) (hk : ∀ row, RN 6 (dr w s) row → k (sd 6 s) row) :
    ∀ (l i fuel : Nat) (row : Nat → Int32), i + l = 6 → l < fuel → RN i (dr w s) row → lp_X12_towers_71 N (nI w) Φ k fuel (sd i s) (nI i) row := by
  intro l
  induction l with
  | zero =>
    intro i fuel row hi hf h
    obtain ⟨z, rfl⟩ : ∃ z, fuel = z + 1 := ⟨fuel - 1, by omega⟩
    rw [lp_X12_towers_71]
    obtain rfl : i = 6 := by omega
    exact br_t (by decide) (hk row h)
  | succ l ih =>
    intro i fuel row hi hf h
    obtain ⟨z, rfl⟩ : ∃ z, fuel = z + 1 := ⟨fuel - 1, by omega⟩
    rw [lp_X12_towers_71, draw _ hw0 hw, nI_1 i, nI_clamp (show i < 2 ^ 31 by omega)]
    refine br_f (nI_ge (b := 6) (by omega) (by omega)) ⟨nI_ne0 hw0 (by omega), in_nI (by omega) (by omega), ih (i + 1) z _ (by omega) (by omega) (fun j hj => ?_)⟩
    by_cases c : j = i
    · subst c; rw [pk_us]; rfl
    · rw [pk_un c]; exact h j (by omega)
def okT (kd se : Nat → Nat) (w k : Nat) (s : Int32) : Bool := decide (allM kd se (sm (dr w s)) 6 k ≠ 16)
def twC (ok : Int32 → Bool) : Nat → Int32 → Nat → Nat
  | 0, _, c => c
  | l + 1, s, c => twC ok l (sd 6 s) (c + (if ok s then 1 else 0))
theorem to_X {N w k m : Nat} {kd se : Nat → Nat} {kinds sets F : Nat → Int32} {Φ : Int32 → (Nat → Int32) → (Nat → Int32) → Prop} (hN : 100 < N) (hK : KS w kd se kinds sets) (hw0 : 0 < w) (hk : k ≤ 4) (hm : m ≤ 30) :
    ∀ (l i fuel c : Nat) (s : Int32) (row : Nat → Int32), i + l = m → l < fuel → (∀ row, Φ (nI (twC (okT kd se w k) l s c)) row F) → lp_X11_towers_73 N (nI m) (nI k) (nI w) (nI w) kinds sets F Φ fuel (nI c) s (nI i) row := by
  have hw := hK.1
  intro l
  induction l with
  | zero =>
    intro i fuel c s row hi hf h
    obtain ⟨z, rfl⟩ : ∃ z, fuel = z + 1 := ⟨fuel - 1, by omega⟩
    rw [lp_X11_towers_73]
    exact br_t (nI_le (by omega) (by omega)) (h row)
  | succ l ih =>
    intro i fuel c s row hi hf h
    obtain ⟨z, rfl⟩ : ∃ z, fuel = z + 1 := ⟨fuel - 1, by omega⟩
    rw [lp_X11_towers_73]
    refine br_f (nI_ge (by omega) (by omega)) (tw_X hw0 hw (fun row' hrow => ?_) 6 0 N row (by omega) (by omega) (fun j hj => by omega))
    unfold ex_X11_towers_127
    have hR : RW w 6 12 (sm (dr w s)) row' := RW_sm (by omega) (by omega) hrow (fun i _ => dr_lt hw0 s i)
    have hle := allM_le (by_ := k) hK hR
    show wp_X8_oneMeaning N 12 (nI 6) _ _ _ _ _ _
    rw [nI_1 i, nI_1 c]
    refine one_X hN hK hR hk ?_
    rw [twC] at h
    by_cases e : allM kd se (sm (dr w s)) 6 k = 16
    · rw [show okT kd se w k s = false from decide_eq_false (not_not_intro e)] at h
      exact br_t (by rw [e]; rfl) (ih (i + 1) z c _ row' (by omega) (by omega) h)
    · rw [show okT kd se w k s = true from decide_eq_true e] at h
      exact br_f (fun y => e ((nI_eq (b := 16) (by omega) (by omega)).mp y)) (ih (i + 1) z (c + 1) _ row' (by omega) (by omega) h)
theorem to_M {N w k m : Nat} {kd se : Nat → Nat} {kinds sets F : Nat → Int32} {Φ : Int32 → (Nat → Int32) → (Nat → Int32) → Prop} (hN : 100 < N) (hK : KS w kd se kinds sets) (hw0 : 0 < w) (hk : k ≤ 4) (hm : m ≤ 30) :
    ∀ (l i fuel c : Nat) (s : Int32) (row : Nat → Int32), i + l = m → l < fuel → (∀ row, Φ (nI (twC (okT kd se w k) l s c)) F row) → lp_X12_towers_62 N (nI m) (nI k) (nI w) F kinds sets Φ fuel (nI c) s (nI i) row := by
  have hw := hK.1
  intro l
  induction l with
  | zero =>
    intro i fuel c s row hi hf h
    obtain ⟨z, rfl⟩ : ∃ z, fuel = z + 1 := ⟨fuel - 1, by omega⟩
    rw [lp_X12_towers_62]
    exact br_t (nI_le (by omega) (by omega)) (h row)
  | succ l ih =>
    intro i fuel c s row hi hf h
    obtain ⟨z, rfl⟩ : ∃ z, fuel = z + 1 := ⟨fuel - 1, by omega⟩
    rw [lp_X12_towers_62]
    refine br_f (nI_ge (by omega) (by omega)) (tw_M hw0 hw (fun row' hrow => ?_) 6 0 N row (by omega) (by omega) (fun j hj => by omega))
    unfold ex_X12_towers_115
    have hR : RW w 6 6 (sm (dr w s)) row' := RW_sm (by omega) (by omega) hrow (fun i _ => dr_lt hw0 s i)
    have hle := allM_le (by_ := k) hK hR
    show wp_X12_meansAll N 6 (nI 6) _ _ _ _ _
    rw [nI_1 i, nI_1 c, nI_p0]
    refine all_M hN hK hR hk ?_
    rw [twC] at h
    by_cases e : allM kd se (sm (dr w s)) 6 k = 16
    · rw [show okT kd se w k s = false from decide_eq_false (not_not_intro e)] at h
      exact br_t (by rw [e]; rfl) (ih (i + 1) z c _ row' (by omega) (by omega) h)
    · rw [show okT kd se w k s = true from decide_eq_true e] at h
      exact br_f (fun y => e ((nI_eq (b := 16) (by omega) (by omega)).mp y)) (ih (i + 1) z (c + 1) _ row' (by omega) (by omega) h)
theorem ge1_of {x : Int32} (h : x < 0) : ¬ 1 ≤ x := by
  intro h1
  have a1 := Int32.le_iff_toInt_le.mp h1
  have a2 := Int32.lt_iff_toInt_lt.mp h
  have c0 : (0 : Int32).toInt = 0 := by decide
  have c1 : (1 : Int32).toInt = 1 := by decide
  omega
/-- 1 .. m, below, above -/
theorem oneTo (x : Int32) {m : Nat} (hm : m < 1000) : ¬ 1 ≤ x ∨ (1 ≤ x ∧ ¬ x ≤ nI m) ∨ ∃ j, 1 ≤ j ∧ j ≤ m ∧ x = nI j ∧ 1 ≤ nI j ∧ nI j ≤ nI m := by
  rcases out x (n := m + 1) (by omega) with (h | h) | ⟨j, hj, rfl⟩
  · exact Or.inl (ge1_of h)
  · exact Or.inr (Or.inl ⟨ge_of (b := 1) h (by omega) (by omega), nbig h (by omega) (by omega)⟩)
  · rcases Nat.eq_zero_or_pos j with e | e
    · subst e; exact Or.inl (by decide)
    · exact Or.inr (Or.inr ⟨j, e, by omega, rfl, nI_le (a := 1) (by omega) (by omega), nI_le (by omega) (by omega)⟩)
theorem op26 {N : Nat} (hN : 8000 < N) : zop26 N Inv := by
  intro vi fa wi ga x1 x2 x3 hI
  obtain ⟨w, r, n, q, kd, se, gw, st, rk, re, rw, rg, pa, pb, t, e2, e3, e4, e5, m0, m1, m2, m3, c1, c7, hT, hT', hR, hR', hP, hP', hB, hC, hD, hE0, hE1, hE2, hE3, hE4, hF, hG, hH⟩ := hI
  obtain ⟨hK, -, -⟩ := id hT
  obtain ⟨hK', -, -⟩ := id hT'
  have hw6 := hK.1
  rw [e2, m0]
  rcases oneTo x1 (m := 30) (by omega) with h1 | ⟨h1, h2⟩ | ⟨m, g1, g2, rfl, h1, h2⟩
  · exact br_f h1 (ref_X r4 (br_f h1 (no_M r4 ⟨rfl, w, r, n, q, kd, se, gw, st, rk, re, rw, rg, pa, pb, t, (by first | exact e2 | rfl), (by first | exact e3 | rfl), (by first | exact e4 | rfl), (by first | exact e5 | rfl), (by first | exact m0 | rfl), (by first | exact m1 | rfl), (by first | exact m2 | rfl), (by first | exact m3 | rfl), (by first | exact c1 | rfl), (by first | exact c7 | rfl), hT, hT', hR, hR', hP, hP', RF_up hB r4, hC, hD, hE0, hE1, hE2, hE3, hE4, hF, hG, hH⟩)))
  · exact br_t h1 (br_f h2 (ref_X r6 (br_t h1 (br_f h2 (no_M r6 ⟨rfl, w, r, n, q, kd, se, gw, st, rk, re, rw, rg, pa, pb, t, (by first | exact e2 | rfl), (by first | exact e3 | rfl), (by first | exact e4 | rfl), (by first | exact e5 | rfl), (by first | exact m0 | rfl), (by first | exact m1 | rfl), (by first | exact m2 | rfl), (by first | exact m3 | rfl), (by first | exact c1 | rfl), (by first | exact c7 | rfl), hT, hT', hR, hR', hP, hP', RF_up hB r6, hC, hD, hE0, hE1, hE2, hE3, hE4, hF, hG, hH⟩)))))
  · refine br_t h1 (br_t h2 ?_)
    rcases out x2 (n := 5) (by omega) with h | ⟨k, hk, rfl⟩
    · exact ir_out h (br_t rfl (ref_X r2 (br_t h1 (br_t h2 (nk_out h (br_f (by decide) (no_M r2 ⟨rfl, w, r, n, q, kd, se, gw, st, rk, re, rw, rg, pa, pb, t, (by first | exact e2 | rfl), (by first | exact e3 | rfl), (by first | exact e4 | rfl), (by first | exact e5 | rfl), (by first | exact m0 | rfl), (by first | exact m1 | rfl), (by first | exact m2 | rfl), (by first | exact m3 | rfl), (by first | exact c1 | rfl), (by first | exact c7 | rfl), hT, hT', hR, hR', hP, hP', RF_up hB r2, hC, hD, hE0, hE1, hE2, hE3, hE4, hF, hG, hH⟩)))))))
    · refine ir_some hk (br_f (by decide) ?_)
      rcases Nat.eq_zero_or_pos w with e | hw0
      · subst e
        exact br_f (by decide) (ref_X r3 (br_t h1 (br_t h2 (nk_some hk (br_t rfl (br_t rfl (no_M r3 ⟨rfl, 0, r, n, q, kd, se, gw, st, rk, re, rw, rg, pa, pb, t, (by first | exact e2 | rfl), (by first | exact e3 | rfl), (by first | exact e4 | rfl), (by first | exact e5 | rfl), (by first | exact m0 | rfl), (by first | exact m1 | rfl), (by first | exact m2 | rfl), (by first | exact m3 | rfl), (by first | exact c1 | rfl), (by first | exact c7 | rfl), hT, hT', hR, hR', hP, hP', RF_up hB r3, hC, hD, hE0, hE1, hE2, hE3, hE4, hF, hG, hH⟩)))))))
      · refine br_t (nI_le (a := 1) (by omega) (by omega)) (to_X (by omega) hK hw0 (by omega) g2 m 0 N 0 x3 _ (by omega) (by omega) (fun row => ?_))
        refine br_t h1 (br_t h2 (nk_some hk (br_t rfl (br_f (nI_ne0 hw0 (by omega)) ?_))))
        exact to_M (by omega) hK' hw0 (by omega) g2 m 0 N 0 x3 _ (by omega) (by omega) (fun row' => ⟨rfl, w, r, n, q, kd, se, gw, st, rk, re, rw, rg, pa, pb, t, (by first | exact e2 | rfl), (by first | exact e3 | rfl), (by first | exact e4 | rfl), (by first | exact e5 | rfl), (by first | exact m0 | rfl), (by first | exact m1 | rfl), (by first | exact m2 | rfl), (by first | exact m3 | rfl), (by first | exact c1 | rfl), (by first | exact c7 | rfl), hT, hT', hR, hR', hP, hP', hB, hC, hD, hE0, hE1, hE2, hE3, hE4, hF, hG, hH⟩)
/-! safe: a word put in -/
def ins (rg : Nat → Option Nat) (g x : Nat) : Nat → Option Nat := fun i => if i < g then rg i else if i = g then some x else rg (i - 1)
theorem ins_v {w n g x : Nat} {rg : Nat → Option Nat} (hv : ∀ i, i < n → ∀ v, rg i = some v → v < w) (hx : x < w) (hg : g ≤ n) : ∀ i, i < n + 1 → ∀ v, ins rg g x i = some v → v < w := by
  intro i hi v h
  unfold ins at h
  split at h
  · exact hv i (by omega) v h
  · split at h
    · cases h; exact hx
    · exact hv (i - 1) (by omega) v h
theorem ins_X {w n g x : Nat} {rg : Nat → Option Nat} {has row : Nat → Int32} (hR : RW w n 12 rg has) (hn : n < 12) (hx : x < w) (hg : g ≤ n) : RW w (n + 1) 12 (ins rg g x) (va_cpy has (upd (va_cpy has row 0 0 g) g (nI x)) g (g + 1) (n - g)) := by
  refine ⟨by omega, by omega, fun i hi => ⟨?_, ins_v (fun i hi => (hR.2.2 i hi).2) hx hg i hi⟩⟩
  unfold ins
  by_cases c : i < g
  · rw [pk_cpy_out (by omega), pk_un (by omega), pk_cpy_in (by omega) (by omega), if_pos c, show 0 + (i - 0) = i by omega]
    exact (hR.2.2 i (by omega)).1
  · by_cases d : i = g
    · subst d; rw [pk_cpy_out (by omega), pk_us, if_neg (by omega), if_pos rfl]; rfl
    · rw [pk_cpy_in (by omega) (by omega), if_neg c, if_neg d, show g + (i - (g + 1)) = i - 1 by omega]
      exact (hR.2.2 (i - 1) (by omega)).1
/-- whether all roads read as they do now -/
def asNow (kd se rk re : Nat → Nat) (rg rg' : Nat → Option Nat) (n r : Nat) : Bool := (ag (rdRoad kd se rk re rg n) (rdRoad kd se rk re rg' (n + 1)) r 0).isNone
theorem an_X {N w n r : Nat} {kd se rk re rw : Nat → Nat} {rg rg' : Nat → Option Nat} {kinds sets has row readers eighths wishes : Nat → Int32} {Φ : Int32 → Prop} (hN : 100 < N) (hK : KS w kd se kinds sets) (hR : RW w n 12 rg has) (hR' : RW w (n + 1) 12 rg' row) (hD : RD r rk re rw readers eighths wishes) :
    ∀ (l i fuel : Nat), i + l = r → l < fuel → Φ (bI (ag (rdRoad kd se rk re rg n) (rdRoad kd se rk re rg' (n + 1)) l i).isNone) → lp_X11_roadsReadAsNow_2 N 12 (nI (n + 1)) (nI w) (nI r) kinds sets readers eighths (nI n) has row Φ fuel (nI i) := by
  have h6 := hD.1
  intro l
  induction l with
  | zero =>
    intro i fuel hi hf h
    obtain ⟨z, rfl⟩ : ∃ z, fuel = z + 1 := ⟨fuel - 1, by omega⟩
    rw [lp_X11_roadsReadAsNow_2]
    exact br_t (nI_le (by omega) (by omega)) h
  | succ l ih =>
    intro i fuel hi hf h
    obtain ⟨z, rfl⟩ : ∃ z, fuel = z + 1 := ⟨fuel - 1, by omega⟩
    have hir : i < r := by omega
    have l1 := rdRoad_le hK hR hD hir
    have l2 := rdRoad_le hK hR' hD hir
    rw [ag] at h
    rw [lp_X11_roadsReadAsNow_2, nI_1 i]
    refine br_f (nI_ge (by omega) (by omega)) (rd_X hN hK hR hD hir (rd_X hN hK hR' hD hir ?_))
    by_cases c : rdRoad kd se rk re rg n i = rdRoad kd se rk re rg' (n + 1) i
    · rw [if_pos c] at h
      exact br_t (by rw [c]) (ih (i + 1) z (by omega) (by omega) h)
    · rw [if_neg c] at h
      exact br_f (fun y => c ((nI_eq (by omega) (by omega)).mp y)) h
theorem an_M {N w n r : Nat} {kd se rk re rw : Nat → Nat} {rg rg' : Nat → Option Nat} {kinds sets ring turning readers eighths wishes : Nat → Int32} {Φ : Int32 → (Nat → Int32) → (Nat → Int32) → Prop} {k : Int32 → Prop} (hN : 100 < N) (hK : KS w kd se kinds sets) (hR : RW w n 12 rg ring) (hR' : RW w (n + 1) 13 rg' turning) (hD : RD r rk re rw readers eighths wishes) :
    ∀ (l i fuel : Nat), i + l = r → l < fuel → k (bI (ag (rdRoad kd se rk re rg n) (rdRoad kd se rk re rg' (n + 1)) l i).isNone) → lp_X12_safe_122 N (nI r) (nI n) kinds sets readers eighths ring turning Φ k fuel 1 (nI i) := by
  have h6 := hD.1
  have bad : ∀ (l i fuel : Nat), i + l = r → l < fuel → k 0 → lp_X12_safe_122 N (nI r) (nI n) kinds sets readers eighths ring turning Φ k fuel 0 (nI i) := by
    intro l
    induction l with
    | zero =>
      intro i fuel hi hf h
      obtain ⟨z, rfl⟩ : ∃ z, fuel = z + 1 := ⟨fuel - 1, by omega⟩
      rw [lp_X12_safe_122]
      exact br_t (nI_le (by omega) (by omega)) h
    | succ l ih =>
      intro i fuel hi hf h
      obtain ⟨z, rfl⟩ : ∃ z, fuel = z + 1 := ⟨fuel - 1, by omega⟩
      rw [lp_X12_safe_122, nI_1 i]
      exact br_f (nI_ge (by omega) (by omega)) (br_t rfl (ih (i + 1) z (by omega) (by omega) h))
  intro l
  induction l with
  | zero =>
    intro i fuel hi hf h
    obtain ⟨z, rfl⟩ : ∃ z, fuel = z + 1 := ⟨fuel - 1, by omega⟩
    rw [lp_X12_safe_122]
    exact br_t (nI_le (by omega) (by omega)) h
  | succ l ih =>
    intro i fuel hi hf h
    obtain ⟨z, rfl⟩ : ∃ z, fuel = z + 1 := ⟨fuel - 1, by omega⟩
    have hir : i < r := by omega
    have l1 := rdRoad_le hK hR hD hir
    have l2 := rdRoad_le hK hR' hD hir
    rw [ag] at h
    rw [lp_X12_safe_122, nI_1 i, nI_1 n]
    refine br_f (nI_ge (by omega) (by omega)) (br_f (by decide) (rd_M hN hK hR' hD hir (rd_M hN hK hR hD hir ?_)))
    by_cases c : rdRoad kd se rk re rg n i = rdRoad kd se rk re rg' (n + 1) i
    · rw [if_pos c] at h
      exact br_t (by rw [c]) (ih (i + 1) z (by omega) (by omega) h)
    · rw [if_neg c] at h
      exact br_f (fun y => c ((nI_eq (by omega) (by omega)).mp y.symm)) (bad l (i + 1) z (by omega) (by omega) h)
def sfS (ok : Nat → Bool) : Nat → Nat → Int32 → Int32
  | 0, _, x => x
  | l + 1, g, x => sfS ok l (g + 1) (if ok g then x ||| ((1 : Int32) <<< (nI g &&& 31)) else x)
theorem sf_X {N w n r x : Nat} {kd se rk re rw : Nat → Nat} {rg : Nat → Option Nat} {kinds sets has readers eighths wishes F : Nat → Int32} {Φ : Int32 → (Nat → Int32) → (Nat → Int32) → Prop} (hN : 100 < N) (hK : KS w kd se kinds sets) (hR : RW w n 12 rg has) (hD : RD r rk re rw readers eighths wishes) (hn : n < 12) (hx : x < w) :
    ∀ (l g fuel : Nat) (y : Int32) (row : Nat → Int32), g + l = n + 1 → l < fuel → (∀ row, Φ (sfS (fun g => asNow kd se rk re rg (ins rg g x) n r) l g y) row F) → lp_X11_safe_60 N (nI x) (nI n) (nI w) (nI r) kinds sets readers eighths (nI n) has F Φ fuel y (nI g) row := by
  have hr6 := hD.1
  intro l
  induction l with
  | zero =>
    intro g fuel y row hg hf h
    obtain ⟨z, rfl⟩ : ∃ z, fuel = z + 1 := ⟨fuel - 1, by omega⟩
    rw [lp_X11_safe_60]
    exact br_t (nI_lt (by omega) (by omega)) (h row)
  | succ l ih =>
    intro g fuel y row hg hf h
    obtain ⟨z, rfl⟩ : ∃ z, fuel = z + 1 := ⟨fuel - 1, by omega⟩
    have c0 : (0 : Int32).toNatClampNeg = 0 := by decide
    have p1 : ¬ nI g < 0 := nI_pos (by omega)
    have p2 : ¬ nI (g + 1) < 0 := nI_pos (by omega)
    have p3 : ¬ nI (n - g) < 0 := nI_pos (by omega)
    rw [lp_X11_safe_60, nI_1 g, nI_1 n, pk_sub (show g ≤ n by omega), c0, nI_clamp (show g < 2 ^ 31 by omega), nI_clamp (show g + 1 < 2 ^ 31 by omega), nI_clamp (show n - g < 2 ^ 31 by omega)]
    refine br_f (nI_nlt (by omega) (by omega)) ⟨p1, by omega, by omega, in_nI (by omega) (by omega), p1, p2, p3, by omega, by omega, ?_⟩
    refine an_X hN hK hR (ins_X hR hn hx (by omega)) hD r 0 N (by omega) (by omega) ?_
    rw [sfS] at h
    show (bI (asNow kd se rk re rg (ins rg g x) n r) = 0 → _) ∧ (¬ bI (asNow kd se rk re rg (ins rg g x) n r) = 0 → _)
    cases e : asNow kd se rk re rg (ins rg g x) n r with
    | true =>
      rw [e] at h
      exact br_f (by decide) (ih (g + 1) z _ _ (by omega) (by omega) h)
    | false =>
      rw [e] at h
      exact br_t rfl (ih (g + 1) z _ _ (by omega) (by omega) h)
theorem st_M {N w n g x : Nat} {rg : Nat → Option Nat} {ring : Nat → Int32} {Φ : Int32 → (Nat → Int32) → (Nat → Int32) → Prop} {k : (Nat → Int32) → Prop} (hR : RW w n 12 rg ring) (hn : n < 12) (hx : x < w) (hg : g ≤ n) (hk : ∀ turning, RW w (n + 1) 13 (ins rg g x) turning → k turning) :
    ∀ (l i fuel : Nat) (turning : Nat → Int32), i + l = n + 1 → l < fuel → (∀ j, j < i → turning j = ow (ins rg g x j)) → lp_X12_safe_59 N (nI x) (nI g) (nI n) ring Φ k fuel (nI i) turning := by
  intro l
  induction l with
  | zero =>
    intro i fuel turning hi hf h
    obtain ⟨z, rfl⟩ : ∃ z, fuel = z + 1 := ⟨fuel - 1, by omega⟩
    rw [lp_X12_safe_59]
    exact br_t (nI_lt (by omega) (by omega)) (hk turning ⟨by omega, by omega, fun j hj => ⟨h j (by omega), ins_v (fun i hi => (hR.2.2 i hi).2) hx hg j hj⟩⟩)
  | succ l ih =>
    intro i fuel turning hi hf h
    obtain ⟨z, rfl⟩ : ∃ z, fuel = z + 1 := ⟨fuel - 1, by omega⟩
    have go : ∀ v, v = ow (ins rg g x i) → lp_X12_safe_59 N (nI x) (nI g) (nI n) ring Φ k z (nI (i + 1)) (upd turning i v) := fun v hv => ih (i + 1) z _ (by omega) (by omega) (fun j hj => by
      by_cases c : j = i
      · subst c; rw [pk_us]; exact hv
      · rw [pk_un c]; exact h j (by omega))
    rw [lp_X12_safe_59, nI_1 i, nI_clamp (show i < 2 ^ 31 by omega)]
    refine br_f (nI_nlt (by omega) (by omega)) (br_c (fun c => br_c (fun d => ⟨in_nI (by omega) (by omega), ?_⟩) (fun d => ?_)) (fun c => ⟨?_, in_nI (by omega) (by omega), ?_⟩))
    · have e : i = g := (nI_eq (by omega) (by omega)).mp d
      refine go _ ?_
      unfold ins
      rw [if_neg (by omega), if_pos e]; rfl
    · have c' : g ≤ i := (nI_leI (by omega) (by omega)).mp c
      have e : ¬ i = g := fun y => d (by rw [y])
      have es : nI i - 1 = nI (i - 1) := pk_sub (b := 1) (by omega)
      rw [es, nI_clamp (show i - 1 < 2 ^ 31 by omega)]
      refine ⟨in_nI (by omega) (by omega), in_nI (by omega) (by omega), go _ ?_⟩
      unfold ins
      rw [if_neg (by omega), if_neg e]; exact (hR.2.2 (i - 1) (by omega)).1
    · have c' : i < g := by
        rcases Nat.lt_or_ge i g with y | y
        · exact y
        · exact absurd (nI_le y (by omega)) c
      exact in_nI (by omega) (by omega)
    · have c' : i < g := by
        rcases Nat.lt_or_ge i g with y | y
        · exact y
        · exact absurd (nI_le y (by omega)) c
      refine go _ ?_
      unfold ins
      rw [if_pos c']; exact (hR.2.2 i (by omega)).1
theorem sf_M {N w n r x : Nat} {kd se rk re rw : Nat → Nat} {rg : Nat → Option Nat} {kinds sets ring readers eighths wishes F : Nat → Int32} {Φ : Int32 → (Nat → Int32) → (Nat → Int32) → Prop} (hN : 100 < N) (hK : KS w kd se kinds sets) (hR : RW w n 12 rg ring) (hD : RD r rk re rw readers eighths wishes) (hn : n < 12) (hx : x < w) :
    ∀ (l g fuel : Nat) (y : Int32) (turning : Nat → Int32), g + l = n + 1 → l < fuel → (∀ turning, Φ (sfS (fun g => asNow kd se rk re rg (ins rg g x) n r) l g y) F turning) → lp_X12_safe_48 N (nI x) (nI r) (nI n) F kinds sets readers eighths ring Φ fuel y (nI g) turning := by
  have hr6 := hD.1
  intro l
  induction l with
  | zero =>
    intro g fuel y turning hg hf h
    obtain ⟨z, rfl⟩ : ∃ z, fuel = z + 1 := ⟨fuel - 1, by omega⟩
    rw [lp_X12_safe_48]
    exact br_t (nI_lt (by omega) (by omega)) (h turning)
  | succ l ih =>
    intro g fuel y turning hg hf h
    obtain ⟨z, rfl⟩ : ∃ z, fuel = z + 1 := ⟨fuel - 1, by omega⟩
    rw [lp_X12_safe_48]
    refine br_f (nI_nlt (by omega) (by omega)) (st_M hR hn hx (by omega) (fun turning' ht => ?_) (n + 1) 0 N turning (by omega) (by omega) (fun j hj => by omega))
    unfold ex_X12_safe_116
    refine an_M hN hK hR ht hD r 0 N (by omega) (by omega) ?_
    unfold ex_X12_safe_182
    rw [nI_1 g, i_or0]
    rw [sfS] at h
    show (bI (asNow kd se rk re rg (ins rg g x) n r) = 0 → _) ∧ (¬ bI (asNow kd se rk re rg (ins rg g x) n r) = 0 → _)
    cases e : asNow kd se rk re rg (ins rg g x) n r with
    | true =>
      rw [e] at h
      exact br_f (by decide) (ih (g + 1) z _ _ (by omega) (by omega) h)
    | false =>
      rw [e] at h
      exact br_t rfl (ih (g + 1) z _ _ (by omega) (by omega) h)
theorem op21 {N : Nat} (hN : 8000 < N) : zop21 N Inv := by
  intro vi fa wi ga x1 hI
  obtain ⟨w, r, n, q, kd, se, gw, st, rk, re, rw, rg, pa, pb, t, e2, e3, e4, e5, m0, m1, m2, m3, c1, c7, hT, hT', hR, hR', hP, hP', hB, hC, hD, hE0, hE1, hE2, hE3, hE4, hF, hG, hH⟩ := hI
  obtain ⟨hK, hD6, -⟩ := id hT
  obtain ⟨hK', hD6', -⟩ := id hT'
  have hw6 := hK.1
  have hn := hR.1
  rw [e2, e3, e4, m0, m1, m2]
  rcases out x1 (n := w) (by omega) with h | ⟨x, hx, rfl⟩
  · exact hw_out h (br_t rfl (ref_X r1 (nw_out h (br_f (by decide) (no_M r1 ⟨rfl, w, r, n, q, kd, se, gw, st, rk, re, rw, rg, pa, pb, t, (by first | exact e2 | rfl), (by first | exact e3 | rfl), (by first | exact e4 | rfl), (by first | exact e5 | rfl), (by first | exact m0 | rfl), (by first | exact m1 | rfl), (by first | exact m2 | rfl), (by first | exact m3 | rfl), (by first | exact c1 | rfl), (by first | exact c7 | rfl), hT, hT', hR, hR', hP, hP', RF_up hB r1, hC, hD, hE0, hE1, hE2, hE3, hE4, hF, hG, hH⟩)))))
  · refine hw_some hx (by omega) (br_f (by decide) ?_)
    rcases Nat.lt_or_ge n 12 with h12 | h12
    · have ne12 : ¬ nI n = 12 := fun z => by have := (nI_eq (b := 12) (by omega) (by omega)).mp z; omega
      refine br_t (nI_lt (b := 12) h12 (by omega)) (br_c (fun c => ?_) (fun c => ?_))
      · exact ref_X r3 (nw_some hx (by omega) (br_t rfl (br_f ne12 (br_t c (no_M r3 ⟨rfl, w, r, n, q, kd, se, gw, st, rk, re, rw, rg, pa, pb, t, (by first | exact e2 | rfl), (by first | exact e3 | rfl), (by first | exact e4 | rfl), (by first | exact e5 | rfl), (by first | exact m0 | rfl), (by first | exact m1 | rfl), (by first | exact m2 | rfl), (by first | exact m3 | rfl), (by first | exact c1 | rfl), (by first | exact c7 | rfl), hT, hT', hR, hR', hP, hP', RF_up hB r3, hC, hD, hE0, hE1, hE2, hE3, hE4, hF, hG, hH⟩)))))
      · refine sf_X (by omega) hK hR hD6 h12 hx (n + 1) 0 N 0 _ (by omega) (by omega) (fun row => ?_)
        refine nw_some hx (by omega) (br_t rfl (br_f ne12 (br_f c ?_)))
        exact sf_M (by omega) hK' hR' hD6' h12 hx (n + 1) 0 N 0 _ (by omega) (by omega) (fun turning => ⟨rfl, w, r, n, q, kd, se, gw, st, rk, re, rw, rg, pa, pb, t, (by first | exact e2 | rfl), (by first | exact e3 | rfl), (by first | exact e4 | rfl), (by first | exact e5 | rfl), (by first | exact m0 | rfl), (by first | exact m1 | rfl), (by first | exact m2 | rfl), (by first | exact m3 | rfl), (by first | exact c1 | rfl), (by first | exact c7 | rfl), hT, hT', hR, hR', hP, hP', hB, hC, hD, hE0, hE1, hE2, hE3, hE4, hF, hG, hH⟩)
    · obtain rfl : n = 12 := by omega
      exact br_f (by decide) (ref_X r6 (nw_some hx (by omega) (br_t rfl (br_t rfl (no_M r6 ⟨rfl, w, r, 12, q, kd, se, gw, st, rk, re, rw, rg, pa, pb, t, (by first | exact e2 | rfl), (by first | exact e3 | rfl), (by first | exact e4 | rfl), (by first | exact e5 | rfl), (by first | exact m0 | rfl), (by first | exact m1 | rfl), (by first | exact m2 | rfl), (by first | exact m3 | rfl), (by first | exact c1 | rfl), (by first | exact c7 | rfl), hT, hT', hR, hR', hP, hP', RF_up hB r6, hC, hD, hE0, hE1, hE2, hE3, hE4, hF, hG, hH⟩)))))
