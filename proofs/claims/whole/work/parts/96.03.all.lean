def KS (w : Nat) (kd se : Nat → Nat) (kinds sets : Nat → Int32) : Prop := w ≤ 6 ∧ (∀ i, i < w → kinds i = nI (kd i) ∧ kd i ≤ 4) ∧ (∀ i, i < w → sets i = nI (se i) ∧ (kd i = 0 → se i < 16))
def RW (w n n1 : Nat) (row : Nat → Option Nat) (p1 : Nat → Int32) : Prop := n ≤ n1 ∧ n1 ≤ 90 ∧ ∀ i, i < n → p1 i = ow (row i) ∧ ∀ v, row i = some v → v < w
theorem rdF_mem {row : Nat → Option Nat} {n st : Nat} (hn : 0 < n) {v : Nat} : ∀ l p, p < n → some v ∈ rdF row n st l p → ∃ q, q < n ∧ row q = some v := by
  intro l
  induction l with
  | zero => intro p _ h; rw [rdF] at h; cases h
  | succ l ih =>
    intro p hp h
    rw [rdF] at h
    rcases List.mem_cons.mp h with h | h
    · exact ⟨p, hp, h.symm⟩
    · exact ih _ (Nat.mod_lt _ hn) h
theorem mean_le {w n p by_ n1 : Nat} {kd se : Nat → Nat} {kinds sets p1 : Nat → Int32} {row : Nat → Option Nat} (hK : KS w kd se kinds sets) (hR : RW w n n1 row p1) (hp : p < n) : mean kd se row n p by_ ≤ 16 := by
  unfold mean
  refine mL_le _ _ _ _ _ _ _ _ _ (fun v hv hk => ?_) (by omega)
  obtain ⟨q, hq, hr⟩ := rdF_mem (by omega) _ _ hp hv
  exact (hK.2.2 v ((hR.2.2 q hq).2 v hr)).2 hk
/-- one thing from all places: the places from p on, l of them -/
def am (f : Nat → Nat) : Nat → Nat → Nat → Nat
  | 0, _, one => one
  | l + 1, p, one => if one = 16 then 16 else am f l (p + 1) (if f p = one then one else 16)
def allM (kd se : Nat → Nat) (row : Nat → Option Nat) (n by_ : Nat) : Nat := if n = 0 then 16 else am (fun p => mean kd se row n p by_) (n - 1) 1 (mean kd se row n 0 by_)
theorem am_16 (f : Nat → Nat) : ∀ l p, am f l p 16 = 16 := by
  intro l
  cases l with
  | zero => intro p; rfl
  | succ l => intro p; rw [am, if_pos rfl]
theorem am_spec (f : Nat → Nat) {m : Nat} (hm : m ≠ 16) : ∀ l p one, am f l p one = m ↔ one = m ∧ ∀ q, p ≤ q → q < p + l → f q = m := by
  intro l
  induction l with
  | zero =>
    intro p one
    rw [am]
    exact ⟨fun h => ⟨h, fun q h1 h2 => by omega⟩, fun h => h.1⟩
  | succ l ih =>
    intro p one
    rw [am]
    by_cases h16 : one = 16
    · subst h16
      rw [if_pos rfl]
      exact ⟨fun h => absurd h.symm hm, fun h => absurd h.1.symm hm⟩
    · rw [if_neg h16, ih]
      constructor
      · rintro ⟨h1, h2⟩
        split at h1
        · rename_i hf
          refine ⟨h1, fun q h3 h4 => ?_⟩
          rcases Nat.eq_or_lt_of_le h3 with rfl | h5
          · rw [hf, h1]
          · exact h2 q (by omega) (by omega)
        · exact absurd h1.symm hm
      · rintro ⟨h1, h2⟩
        refine ⟨?_, fun q h3 h4 => h2 q (by omega) (by omega)⟩
        rw [if_pos (by rw [h2 p (by omega) (by omega), h1])]
        exact h1
theorem am_le (f : Nat → Nat) : ∀ l p one, one ≤ 16 → am f l p one ≤ 16 := by
  intro l
  induction l with
  | zero => intro p one h; exact h
  | succ l ih =>
    intro p one h
    rw [am]
    split
    · omega
    · refine ih _ _ ?_
      split <;> omega
theorem allM_spec {kd se : Nat → Nat} {row : Nat → Option Nat} {n by_ : Nat} (hn : 0 < n) {m : Nat} (hm : m ≠ 16) : allM kd se row n by_ = m ↔ ∀ p, p < n → mean kd se row n p by_ = m := by
  unfold allM
  rw [if_neg (by omega), am_spec _ hm]
  constructor
  · rintro ⟨h, hq⟩ p hp
    rcases Nat.eq_zero_or_pos p with rfl | h0
    · exact h
    · exact hq p (by omega) (by omega)
  · intro h
    exact ⟨h 0 hn, fun q h1 h2 => h q (by omega)⟩
theorem allM_le {w n by_ n1 : Nat} {kd se : Nat → Nat} {kinds sets p1 : Nat → Int32} {row : Nat → Option Nat} (hK : KS w kd se kinds sets) (hR : RW w n n1 row p1) : allM kd se row n by_ ≤ 16 := by
  unfold allM
  split
  · omega
  · exact am_le _ _ _ _ (mean_le hK hR (by omega))
theorem one_X_loop {N n1 w n by_ : Nat} {kd se : Nat → Nat} {kinds sets p1 : Nat → Int32} {Φ : Int32 → Prop} {row : Nat → Option Nat} (hN : 100 < N) (hK : KS w kd se kinds sets) (hR : RW w n n1 row p1) (hby : by_ ≤ 4) :
    ∀ (l p fuel one : Nat), l < fuel → (p + l = n ∨ (n ≤ p ∧ l = 0)) → one ≤ 16 → p ≤ 91 → Φ (nI (am (fun p => mean kd se row n p by_) l p one)) → lp_X8_oneMeaning_13 N n1 (nI n) (nI by_) (nI w) kinds sets p1 Φ fuel (nI one) (nI p) := by
  have hn := hR.1
  have hn9 := hR.2.1
  intro l
  induction l with
  | zero =>
    intro p fuel one hf hp h1 h9 h
    obtain ⟨f, rfl⟩ : ∃ f, fuel = f + 1 := ⟨fuel - 1, by omega⟩
    rw [lp_X8_oneMeaning_13]
    exact br_t (nI_le (by omega) (by omega)) h
  | succ l ih =>
    intro p fuel one hf hp h1 h9 h
    obtain ⟨f, rfl⟩ : ∃ f, fuel = f + 1 := ⟨fuel - 1, by omega⟩
    rw [lp_X8_oneMeaning_13]
    rw [am] at h
    refine br_f (nI_ge (by omega) (by omega)) ?_
    by_cases h16 : one = 16
    · subst h16
      rw [if_pos rfl] at h
      exact br_t rfl h
    · rw [if_neg h16] at h
      refine br_f (fun z => h16 ((nI_eq (b := 16) (by omega) (by omega)).mp z)) ?_
      refine mn_X hN hK.1 hR.1 hR.2.1 (by omega) hK.2.1 hK.2.2 hR.2.2 hby ?_
      have hle := mean_le (by_ := by_) hK hR (show p < n by omega)
      rw [nI_1]
      by_cases he : mean kd se row n p by_ = one
      · rw [if_pos he] at h
        exact br_t (by rw [he]) (ih (p + 1) f one (by omega) (by omega) h1 (by omega) h)
      · rw [if_neg he] at h
        exact br_f (fun z => he ((nI_eq (by omega) (by omega)).mp z)) (ih (p + 1) f 16 (by omega) (by omega) (by omega) (by omega) h)
theorem one_X {N n1 w n by_ : Nat} {kd se : Nat → Nat} {kinds sets p1 : Nat → Int32} {Φ : Int32 → Prop} {row : Nat → Option Nat} (hN : 100 < N) (hK : KS w kd se kinds sets) (hR : RW w n n1 row p1) (hby : by_ ≤ 4) (h : Φ (nI (allM kd se row n by_))) : wp_X8_oneMeaning N n1 (nI n) (nI by_) (nI w) kinds sets p1 Φ := by
  unfold wp_X8_oneMeaning
  unfold allM at h
  have hn9 := hR.2.1
  by_cases hn : n = 0
  · subst hn
    rw [if_pos rfl] at h
    exact mn_X0 (one_X_loop hN hK hR hby 0 1 N 16 (by omega) (by omega) (by omega) (by omega) h)
  · rw [if_neg hn] at h
    refine mn_X (p := 0) hN hK.1 hR.1 hR.2.1 (by omega) hK.2.1 hK.2.2 hR.2.2 hby ?_
    have h1 := hR.1
    exact one_X_loop hN hK hR hby (n - 1) 1 N _ (by omega) (by omega) (mean_le hK hR (by omega)) (by omega) h
theorem all_M_loop {N n1 w n by_ : Nat} {kd se : Nat → Nat} {kinds sets p1 : Nat → Int32} {Φ : Int32 → Prop} {row : Nat → Option Nat} (hN : 100 < N) (hK : KS w kd se kinds sets) (hR : RW w n n1 row p1) (hby : by_ ≤ 4) :
    ∀ (l p fuel one : Nat), l < fuel → (p + l = n ∨ (n ≤ p ∧ l = 0)) → one ≤ 16 → p ≤ 91 → Φ (nI (am (fun p => mean kd se row n p by_) l p one)) → lp_X12_meansAll_22 N n1 (nI n) (nI by_) kinds sets p1 Φ fuel (nI one) (nI p) := by
  have hn := hR.1
  have hn9 := hR.2.1
  intro l
  induction l with
  | zero =>
    intro p fuel one hf hp h1 h9 h
    obtain ⟨f, rfl⟩ : ∃ f, fuel = f + 1 := ⟨fuel - 1, by omega⟩
    rw [lp_X12_meansAll_22]
    exact br_t (nI_le (by omega) (by omega)) h
  | succ l ih =>
    intro p fuel one hf hp h1 h9 h
    obtain ⟨f, rfl⟩ : ∃ f, fuel = f + 1 := ⟨fuel - 1, by omega⟩
    rw [lp_X12_meansAll_22]
    rw [am] at h
    refine br_f (nI_ge (by omega) (by omega)) ?_
    by_cases h16 : one = 16
    · subst h16
      rw [if_pos rfl] at h
      exact br_t rfl h
    · rw [if_neg h16] at h
      refine br_f (fun z => h16 ((nI_eq (b := 16) (by omega) (by omega)).mp z)) ?_
      refine mn_M hN hK.1 hR.1 hR.2.1 (by omega) hK.2.1 hK.2.2 hR.2.2 hby ?_
      have hle := mean_le (by_ := by_) hK hR (show p < n by omega)
      rw [nI_1]
      by_cases he : mean kd se row n p by_ = one
      · rw [if_pos he] at h
        exact br_t (by rw [he]) (ih (p + 1) f one (by omega) (by omega) h1 (by omega) h)
      · rw [if_neg he] at h
        exact br_f (fun z => he ((nI_eq (by omega) (by omega)).mp z)) (ih (p + 1) f 16 (by omega) (by omega) (by omega) (by omega) h)
theorem all_M {N n1 w n by_ : Nat} {kd se : Nat → Nat} {kinds sets p1 : Nat → Int32} {Φ : Int32 → Prop} {row : Nat → Option Nat} (hN : 100 < N) (hK : KS w kd se kinds sets) (hR : RW w n n1 row p1) (hby : by_ ≤ 4) (h : Φ (nI (allM kd se row n by_))) : wp_X12_meansAll N n1 (nI n) (nI by_) kinds sets p1 Φ := by
  unfold wp_X12_meansAll
  unfold allM at h
  have hn9 := hR.2.1
  have h1 := hR.1
  by_cases hn : n = 0
  · subst hn
    rw [if_pos rfl] at h
    exact br_t rfl (all_M_loop hN hK hR hby 0 1 N 16 (by omega) (by omega) (by omega) (by omega) h)
  · rw [if_neg hn] at h
    refine br_f (nI_ne0 (by omega) (by omega)) ?_
    refine mn_M (p := 0) hN hK.1 hR.1 hR.2.1 (by omega) hK.2.1 hK.2.2 hR.2.2 hby ?_
    exact all_M_loop hN hK hR hby (n - 1) 1 N _ (by omega) (by omega) (mean_le hK hR (by omega)) (by omega) h
/-! roads -/
def RD (r : Nat) (rk re rw : Nat → Nat) (readers eighths wishes : Nat → Int32) : Prop := r ≤ 6 ∧ ∀ i, i < r → readers i = nI (rk i) ∧ eighths i = nI (re i) ∧ wishes i = nI (rw i) ∧ rk i ≤ 4 ∧ re i ≤ 7 ∧ rw i ≤ 16
/-- what a road reads -/
def rdRoad (kd se : Nat → Nat) (rk re : Nat → Nat) (row : Nat → Option Nat) (n i : Nat) : Nat := if n = 0 then 16 else mean kd se row n (re i * n / 8) (rk i)
theorem rdRoad_le {w n i n1 r : Nat} {kd se rk re rw : Nat → Nat} {kinds sets p1 readers eighths wishes : Nat → Int32} {row : Nat → Option Nat} (hK : KS w kd se kinds sets) (hR : RW w n n1 row p1) (hD : RD r rk re rw readers eighths wishes) (hi : i < r) : rdRoad kd se rk re row n i ≤ 16 := by
  unfold rdRoad
  split
  · omega
  · have := (hD.2 i hi).2.2.2.2.1
    refine mean_le hK hR ?_
    have h8 : re i * n ≤ 7 * n := Nat.mul_le_mul_right n this
    omega
theorem rd_X {N n1 w n r i : Nat} {kd se rk re rw : Nat → Nat} {kinds sets p1 readers eighths wishes : Nat → Int32} {Φ : Int32 → Prop} {row : Nat → Option Nat} (hN : 100 < N) (hK : KS w kd se kinds sets) (hR : RW w n n1 row p1) (hD : RD r rk re rw readers eighths wishes) (hi : i < r) (h : Φ (nI (rdRoad kd se rk re row n i))) : wp_X8_readByRoad N n1 (nI i) (nI n) (nI w) kinds sets readers eighths p1 Φ := by
  have h6 := hD.1
  have hn1 := hR.1
  have hn9 := hR.2.1
  obtain ⟨d1, d2, d3, d4, d5, d6⟩ := hD.2 i hi
  unfold wp_X8_readByRoad wp_X8_beginOf
  have hi6 : vp_in (nI i) 6 := in_nI (by omega) (by omega)
  refine ⟨hi6, hi6, ?_⟩
  have h8 : re i * n ≤ 7 * n := Nat.mul_le_mul_right n d5
  rw [nI_clamp (show i < 2 ^ 31 by omega), d1, d2, pk_mul, show nI (re i * n) / 8 = nI (re i * n / 8) from pk_div (d := 8) (by omega) (by omega) (by omega)]
  unfold rdRoad at h
  by_cases hn : n = 0
  · subst hn
    rw [if_pos rfl] at h
    exact mn_X0 h
  · rw [if_neg hn] at h
    exact mn_X hN hK.1 hR.1 hR.2.1 (by omega) hK.2.1 hK.2.2 hR.2.2 d4 h
theorem rd_M {N n1 w n r i : Nat} {kd se rk re rw : Nat → Nat} {kinds sets p1 readers eighths wishes : Nat → Int32} {Φ : Int32 → Prop} {row : Nat → Option Nat} (hN : 100 < N) (hK : KS w kd se kinds sets) (hR : RW w n n1 row p1) (hD : RD r rk re rw readers eighths wishes) (hi : i < r) (h : Φ (nI (rdRoad kd se rk re row n i))) : wp_X12_reads N n1 (nI n) (nI i) kinds sets readers eighths p1 Φ := by
  have h6 := hD.1
  have hn1 := hR.1
  have hn9 := hR.2.1
  obtain ⟨d1, d2, d3, d4, d5, d6⟩ := hD.2 i hi
  unfold wp_X12_reads
  have hi6 : vp_in (nI i) 6 := in_nI (by omega) (by omega)
  have h8 : re i * n ≤ 7 * n := Nat.mul_le_mul_right n d5
  rw [nI_clamp (show i < 2 ^ 31 by omega), d1, d2, pk_mul, show nI (re i * n) / 8 = nI (re i * n / 8) from pk_div (d := 8) (by omega) (by omega) (by omega)]
  unfold rdRoad at h
  by_cases hn : n = 0
  · subst hn
    rw [if_pos rfl] at h
    exact br_t rfl h
  · rw [if_neg hn] at h
    refine br_f (nI_ne0 (by omega) (by omega)) ⟨hi6, hi6, ?_⟩
    exact mn_M hN hK.1 hR.1 hR.2.1 (by omega) hK.2.1 hK.2.2 hR.2.2 d4 h
/-- the first road from i on, l of them left, against its wish -/
def ag (f : Nat → Nat) (rw : Nat → Nat) : Nat → Nat → Option Nat
  | 0, _ => none
  | l + 1, i => if f i = rw i then ag f rw l (i + 1) else some i
def ansO (o : Option Nat) : Int32 := match o with
  | none => -9
  | some i => nI i
def against (kd se rk re rw : Nat → Nat) (row : Nat → Option Nat) (n r : Nat) : Option Nat := ag (rdRoad kd se rk re row n) rw r 0
theorem fa_X_loop {N n1 w n r : Nat} {kd se rk re rw : Nat → Nat} {kinds sets p1 readers eighths wishes : Nat → Int32} {Φ : Int32 → Prop} {row : Nat → Option Nat} (hN : 100 < N) (hK : KS w kd se kinds sets) (hR : RW w n n1 row p1) (hD : RD r rk re rw readers eighths wishes) :
    ∀ (l i fuel : Nat), l < fuel → i + l = r → Φ (ansO (ag (rdRoad kd se rk re row n) rw l i)) → lp_X8_firstAgainst_2 N n1 (nI n) (nI w) (nI r) kinds sets readers eighths wishes p1 Φ fuel (nI i) := by
  have h6 := hD.1
  intro l
  induction l with
  | zero =>
    intro i fuel hf hi h
    obtain ⟨f, rfl⟩ : ∃ f, fuel = f + 1 := ⟨fuel - 1, by omega⟩
    rw [lp_X8_firstAgainst_2]
    exact br_t (nI_le (by omega) (by omega)) h
  | succ l ih =>
    intro i fuel hf hi h
    obtain ⟨f, rfl⟩ : ∃ f, fuel = f + 1 := ⟨fuel - 1, by omega⟩
    rw [lp_X8_firstAgainst_2]
    rw [ag] at h
    have hir : i < r := by omega
    obtain ⟨d1, d2, d3, d4, d5, d6⟩ := hD.2 i hir
    refine br_f (nI_ge (by omega) (by omega)) (rd_X hN hK hR hD hir ⟨in_nI (by omega) (by omega), ?_⟩)
    rw [nI_clamp (show i < 2 ^ 31 by omega), d3, nI_1]
    have hle := rdRoad_le hK hR hD hir
    by_cases he : rdRoad kd se rk re row n i = rw i
    · rw [if_pos he] at h
      exact br_t (by rw [he]) (ih (i + 1) f (by omega) (by omega) h)
    · rw [if_neg he] at h
      exact br_f (fun z => he ((nI_eq (by omega) (by omega)).mp z)) h
theorem fa_X {N n1 w n r : Nat} {kd se rk re rw : Nat → Nat} {kinds sets p1 readers eighths wishes : Nat → Int32} {Φ : Int32 → Prop} {row : Nat → Option Nat} (hN : 100 < N) (hK : KS w kd se kinds sets) (hR : RW w n n1 row p1) (hD : RD r rk re rw readers eighths wishes) (h : Φ (ansO (against kd se rk re rw row n r))) : wp_X8_firstAgainst N n1 (nI n) (nI w) (nI r) kinds sets readers eighths wishes p1 Φ :=
  have h6 := hD.1
  fa_X_loop hN hK hR hD r 0 N (by omega) (by omega) h
theorem aw_M_loop {N n1 w n r : Nat} {kd se rk re rw : Nat → Nat} {kinds sets p1 readers eighths wishes : Nat → Int32} {Φ : Int32 → Prop} {row : Nat → Option Nat} (hN : 100 < N) (hK : KS w kd se kinds sets) (hR : RW w n n1 row p1) (hD : RD r rk re rw readers eighths wishes) :
    ∀ (l i fuel : Nat), l < fuel → i + l = r → Φ (bI (ag (rdRoad kd se rk re row n) rw l i).isNone) → lp_X12_areWished_5 N n1 (nI n) (nI r) kinds sets readers eighths wishes p1 Φ fuel 1 (nI i) := by
  have h6 := hD.1
  intro l
  induction l with
  | zero =>
    intro i fuel hf hi h
    obtain ⟨f, rfl⟩ : ∃ f, fuel = f + 1 := ⟨fuel - 1, by omega⟩
    rw [lp_X12_areWished_5]
    exact br_t (nI_le (by omega) (by omega)) ⟨Or.inr rfl, h⟩
  | succ l ih =>
    intro i fuel hf hi h
    obtain ⟨f, rfl⟩ : ∃ f, fuel = f + 1 := ⟨fuel - 1, by omega⟩
    rw [lp_X12_areWished_5]
    rw [ag] at h
    have hir : i < r := by omega
    obtain ⟨d1, d2, d3, d4, d5, d6⟩ := hD.2 i hir
    refine br_f (nI_ge (by omega) (by omega)) (br_f (by decide) (rd_M hN hK hR hD hir ⟨in_nI (by omega) (by omega), ?_⟩))
    rw [nI_clamp (show i < 2 ^ 31 by omega), d3, nI_1]
    have hle := rdRoad_le hK hR hD hir
    by_cases he : rdRoad kd se rk re row n i = rw i
    · rw [if_pos he] at h
      exact br_t (by rw [he]) (ih (i + 1) f (by omega) (by omega) h)
    · rw [if_neg he] at h
      refine br_f (fun z => he ((nI_eq (by omega) (by omega)).mp z)) ?_
      obtain ⟨f, rfl⟩ : ∃ z, f = z + 1 := ⟨f - 1, by omega⟩
      rw [lp_X12_areWished_5]
      exact ⟨fun _ => ⟨Or.inl rfl, h⟩, fun _ => br_t rfl ⟨Or.inl rfl, h⟩⟩
theorem aw_M {N n1 w n r : Nat} {kd se rk re rw : Nat → Nat} {kinds sets p1 readers eighths wishes : Nat → Int32} {Φ : Int32 → Prop} {row : Nat → Option Nat} (hN : 100 < N) (hK : KS w kd se kinds sets) (hR : RW w n n1 row p1) (hD : RD r rk re rw readers eighths wishes) (h : Φ (bI (against kd se rk re rw row n r).isNone)) : wp_X12_areWished N n1 (nI n) (nI r) kinds sets readers eighths wishes p1 Φ :=
  have h6 := hD.1
  aw_M_loop hN hK hR hD r 0 N (by omega) (by omega) h
