/-! every: a round of all pairs, searched by both programs in one order -/
def fk (pa pb : Nat → Nat) (U : Nat → Bool) (c v : Nat) : Nat → Option Nat
  | 0 => none
  | k + 1 => match fk pa pb U c v k with
    | some j => some j
    | none => if U k = false ∧ pa k = c ∧ pb k = v then some k else none
theorem fk_some {pa pb : Nat → Nat} {U : Nat → Bool} {c v : Nat} : ∀ q k, fk pa pb U c v q = some k → k < q ∧ U k = false ∧ pa k = c ∧ pb k = v := by
  intro q
  induction q with
  | zero => intro k h; cases h
  | succ q ih =>
    intro k h
    rw [fk] at h
    cases e : fk pa pb U c v q with
    | some j =>
      rw [e] at h
      cases h
      obtain ⟨a, b⟩ := ih _ e
      exact ⟨by omega, b⟩
    | none =>
      rw [e] at h
      by_cases y : U q = false ∧ pa q = c ∧ pb q = v
      · simp only [if_pos y] at h
        cases h
        exact ⟨by omega, y⟩
      · simp only [if_neg y] at h
        cases h
theorem fk_none {pa pb : Nat → Nat} {U : Nat → Bool} {c v : Nat} : ∀ q, fk pa pb U c v q = none → ∀ k, k < q → ¬ (U k = false ∧ pa k = c ∧ pb k = v) := by
  intro q
  induction q with
  | zero => intro _ k hk; omega
  | succ q ih =>
    intro h k hk
    rw [fk] at h
    cases e : fk pa pb U c v q with
    | some j => rw [e] at h; cases h
    | none =>
      rw [e] at h
      by_cases y : U q = false ∧ pa q = c ∧ pb q = v
      · simp only [if_pos y] at h
        cases h
      · rcases Nat.lt_or_ge k q with z | z
        · exact ih e k z
        · rw [show k = q by omega]; exact y
/-- the words next tried, from v on, l of them; what goes on behind each is rec's -/
def srW (pa pb : Nat → Nat) (q : Nat) (rec : Nat → (Nat → Bool) → Option (List Nat)) (c : Nat) (U : Nat → Bool) : Nat → Nat → Option (List Nat)
  | 0, _ => none
  | l + 1, v => match fk pa pb U c v q with
    | none => srW pa pb q rec c U l (v + 1)
    | some k => match rec v (va_up U k true) with
      | some L => some (v :: L)
      | none => srW pa pb q rec c U l (v + 1)
/-- the way on from word c, d pairs being left -/
def sr (pa pb : Nat → Nat) (w q : Nat) : Nat → Nat → (Nat → Bool) → Option (List Nat)
  | 0, c, _ => if c = pa 0 then some [] else none
  | d + 1, c, U => srW pa pb q (sr pa pb w q d) c U w 0
theorem srW_some {pa pb : Nat → Nat} {q c : Nat} {U : Nat → Bool} {rec : Nat → (Nat → Bool) → Option (List Nat)} {L : List Nat} : ∀ l v, srW pa pb q rec c U l v = some L → ∃ u k M, fk pa pb U c u q = some k ∧ rec u (va_up U k true) = some M ∧ L = u :: M := by
  intro l
  induction l with
  | zero => intro v h; cases h
  | succ l ih =>
    intro v h
    rw [srW] at h
    cases e : fk pa pb U c v q with
    | none => rw [e] at h; exact ih _ h
    | some k =>
      rw [e] at h
      cases e2 : rec v (va_up U k true) with
      | none => simp only [e2] at h; exact ih _ h
      | some M => simp only [e2] at h; cases h; exact ⟨v, k, M, e, e2, rfl⟩
theorem sr_len {pa pb : Nat → Nat} {w q : Nat} : ∀ d c U L, sr pa pb w q d c U = some L → L.length = d := by
  intro d
  induction d with
  | zero =>
    intro c U L h
    rw [sr] at h
    split at h
    · cases h; rfl
    · cases h
  | succ d ih =>
    intro c U L h
    rw [sr] at h
    obtain ⟨u, k, M, a, b, rfl⟩ := srW_some _ _ h
    rw [List.length_cons, ih _ _ _ b]
/-! a way of all pairs leaves each word as often as it comes to it -/
theorem cnt_congr {p p' : Nat → Bool} : ∀ j, (∀ i, i < j → p i = p' i) → cnt p j = cnt p' j := by
  intro j
  induction j with
  | zero => intro _; rfl
  | succ j ih => intro h; rw [cnt, cnt, ih (fun i hi => h i (by omega)), h j (by omega)]
theorem cnt_drop {p p' : Nat → Bool} {k : Nat} (h1 : p k = true) (h2 : p' k = false) : ∀ j, k < j → (∀ i, i < j → i ≠ k → p i = p' i) → cnt p j = cnt p' j + 1 := by
  intro j
  induction j with
  | zero => intro h; omega
  | succ j ih =>
    intro hk h
    rw [cnt, cnt]
    by_cases e : k = j
    · subst e
      rw [h1, h2, cnt_congr k (fun i hi => h i (by omega) (by omega))]
      simp
    · rw [ih (by omega) (fun i hi hn => h i (by omega) hn), h j (by omega) (fun y => e y.symm)]
      omega
def un (U : Nat → Bool) (q : Nat) : Nat := cnt (fun k => !U k) q
def ou (pa : Nat → Nat) (U : Nat → Bool) (a q : Nat) : Nat := cnt (fun k => !U k && decide (pa k = a)) q
theorem un_up {U : Nat → Bool} {k q : Nat} (hk : k < q) (h : U k = false) : un U q = un (va_up U k true) q + 1 := by
  refine cnt_drop (k := k) (by simp [h]) (by simp [va_up]) q hk (fun i _ hn => ?_)
  simp [va_up, hn]
theorem ou_up {pa : Nat → Nat} {U : Nat → Bool} {a k q : Nat} (hk : k < q) (h : U k = false) : ou pa U a q = ou pa (va_up U k true) a q + (if pa k = a then 1 else 0) := by
  by_cases e : pa k = a
  · rw [if_pos e]
    refine cnt_drop (k := k) (by simp [h, e]) (by simp [va_up]) q hk (fun i _ hn => ?_)
    simp [va_up, hn]
  · rw [if_neg e]
    refine cnt_congr q (fun i _ => ?_)
    by_cases hn : i = k
    · subst hn; simp [va_up, e]
    · simp [va_up, hn]
theorem ou_0 {pa : Nat → Nat} {U : Nat → Bool} {a : Nat} : ∀ q, un U q = 0 → ou pa U a q = 0 := by
  intro q
  induction q with
  | zero => intro _; rfl
  | succ q ih =>
    intro h
    unfold un at h
    rw [cnt] at h
    unfold ou
    rw [cnt]
    have h1 : cnt (fun k => !U k) q = 0 := by omega
    have h2 := ih h1
    unfold ou at h2
    rw [h2]
    cases e : U q with
    | true => simp
    | false => rw [e] at h; simp at h
theorem sr_bal {pa pb : Nat → Nat} {w q : Nat} : ∀ d c U L, un U q = d → sr pa pb w q d c U = some L → ∀ a, ou pa U a q + (if pa 0 = a then 1 else 0) = ou pb U a q + (if c = a then 1 else 0) := by
  intro d
  induction d with
  | zero =>
    intro c U L hu h a
    rw [sr] at h
    rw [ou_0 q hu, ou_0 q hu]
    split at h
    · rename_i e; rw [e]
    · cases h
  | succ d ih =>
    intro c U L hu h a
    rw [sr] at h
    obtain ⟨u, k, M, e1, e2, rfl⟩ := srW_some _ _ h
    obtain ⟨k1, k2, k3, k4⟩ := fk_some _ _ e1
    have := ih u (va_up U k true) M (by rw [un_up k1 k2] at hu; omega) e2 a
    rw [ou_up (pa := pa) k1 k2, ou_up (pa := pb) k1 k2, k3, k4]
    omega
/-- the first pair is used -/
def U1 : Nat → Bool := fun k => decide (k = 0)
theorem bal {pa pb : Nat → Nat} {w q : Nat} {L : List Nat} (hq : 0 < q) (h : sr pa pb w q (q - 1) (pb 0) U1 = some L) : ∀ a, cnt (fun k => decide (pa k = a)) q = cnt (fun k => decide (pb k = a)) q := by
  have h0 : va_up (fun _ => false) 0 true = U1 := by
    funext k
    unfold va_up U1
    by_cases e : k = 0 <;> simp [e]
  have hU : un (fun _ => false) q = q := by
    clear h hq
    induction q with
    | zero => rfl
    | succ q ih => unfold un at ih ⊢; rw [cnt, ih]; simp
  have hu := un_up (U := fun _ => false) hq rfl
  rw [hU, h0] at hu
  intro a
  have hb := sr_bal (q - 1) (pb 0) U1 L (by omega) h a
  have a1 := ou_up (pa := pa) (U := fun _ => false) (a := a) hq rfl
  have a2 := ou_up (pa := pb) (U := fun _ => false) (a := a) hq rfl
  rw [h0] at a1 a2
  have b1 : ou pa (fun _ => false) a q = cnt (fun k => decide (pa k = a)) q := cnt_congr q (fun i _ => by simp)
  have b2 : ou pb (fun _ => false) a q = cnt (fun k => decide (pb k = a)) q := cnt_congr q (fun i _ => by simp)
  omega
/-! bits -/
theorem shs : ∀ k, k < 17 → ((nI k &&& 31).toBitVec.smod 32).toNat = k := by decide +kernel
theorem bit0 {u k : Nat} (hu : u < 2 ^ 31) (hk : k < 17) : ((nI u >>> (nI k &&& 31)) &&& 1 = 0) ↔ u.testBit k = false := by
  have h1 : u / 2 ^ k ≤ u := Nat.div_le_self _ _
  have h2 : nI (u / 2 ^ k) &&& 1 = nI (u / 2 ^ k % 2 ^ 1) := pk_andN (by omega) 1 (by decide +kernel)
  rw [pk_shrN hu _ k (shs k hk), h2, Nat.testBit_eq_decide_div_mod_eq, decide_eq_false_iff_not, Nat.pow_one]
  have h3 : u / 2 ^ k % 2 < 2 := Nat.mod_lt _ (by omega)
  have h4 : nI (u / 2 ^ k % 2) = 0 ↔ u / 2 ^ k % 2 = 0 := nI_eq (b := 0) (by omega) (by omega)
  rw [h4]
  omega
theorem bit1 {u k : Nat} (hu : u < 2 ^ 31) (hk : k < 17) : ((nI u >>> (nI k &&& 31)) &&& 1 = 1) ↔ u.testBit k = true := by
  have h1 : u / 2 ^ k ≤ u := Nat.div_le_self _ _
  have h2 : nI (u / 2 ^ k) &&& 1 = nI (u / 2 ^ k % 2 ^ 1) := pk_andN (by omega) 1 (by decide +kernel)
  rw [pk_shrN hu _ k (shs k hk), h2, Nat.testBit_eq_decide_div_mod_eq, decide_eq_true_iff, Nat.pow_one]
  have h3 : u / 2 ^ k % 2 < 2 := Nat.mod_lt _ (by omega)
  exact nI_eq (b := 1) (by omega) (by omega)
theorem tb_xor (a s b : Nat) : (a ^^^ 2 ^ s).testBit b = (a.testBit b ^^ decide (s = b)) := by rw [Nat.testBit_xor, Nat.testBit_two_pow]
/-- the words behind each word, by pairs not used -/
def BH (pa pb : Nat → Nat) (q : Nat) (U : Nat → Bool) (f : Nat → Int32) : Prop := ∀ a, a < 6 → ∃ M, M < 64 ∧ f a = nI M ∧ ∀ v, M.testBit v = true ↔ ∃ k, k < q ∧ U k = false ∧ pa k = a ∧ pb k = v
def Dis (pa pb : Nat → Nat) (q : Nat) : Prop := ∀ i j, i < q → j < q → pa i = pa j → pb i = pb j → i = j
theorem BH_take {pa pb : Nat → Nat} {q k : Nat} {U : Nat → Bool} {f : Nat → Int32} (hd : Dis pa pb q) (h : BH pa pb q U f) (hk : k < q) (hu : U k = false) (ha : pa k < 6) (hb : pb k < 6) : BH pa pb q (va_up U k true) (upd f (pa k) (f (pa k) ^^^ ((1 : Int32) <<< (nI (pb k) &&& 31)))) := by
  intro a ha6
  obtain ⟨M, m1, m2, m3⟩ := h a ha6
  by_cases e : a = pa k
  · subst e
    have hp : 2 ^ pb k < 2 ^ 6 := Nat.pow_lt_pow_right (by omega) hb
    refine ⟨M ^^^ 2 ^ pb k, Nat.xor_lt_two_pow (n := 6) m1 hp, ?_, fun v => ?_⟩
    · rw [pk_us, m2, sh1 _ (by omega), nI_xor _ _ (by omega) (by omega)]
    · have hbit : M.testBit (pb k) = true := (m3 _).mpr ⟨k, hk, hu, rfl, rfl⟩
      rw [tb_xor]
      by_cases ev : pb k = v
      · subst ev
        rw [hbit]
        simp only [decide_true, Bool.xor_self, Bool.false_eq_true, false_iff]
        rintro ⟨i, i1, i2, i3, i4⟩
        have := hd i k i1 hk i3 i4
        subst this
        rw [vu_s] at i2; cases i2
      · rw [decide_eq_false ev, Bool.xor_false, m3]
        constructor
        · rintro ⟨i, i1, i2, i3, i4⟩
          exact ⟨i, i1, by rw [vu_n (fun y => ev (by rw [← y]; exact i4))]; exact i2, i3, i4⟩
        · rintro ⟨i, i1, i2, i3, i4⟩
          refine ⟨i, i1, ?_, i3, i4⟩
          by_cases y : i = k
          · subst y; rw [vu_s] at i2; cases i2
          · rw [vu_n y] at i2; exact i2
  · refine ⟨M, m1, by rw [pk_un e]; exact m2, fun v => ?_⟩
    rw [m3]
    constructor
    · rintro ⟨i, i1, i2, i3, i4⟩
      exact ⟨i, i1, by rw [vu_n (fun y => e (by rw [← i3, y]))]; exact i2, i3, i4⟩
    · rintro ⟨i, i1, i2, i3, i4⟩
      rw [vu_n (fun y => e (by rw [← i3, y]))] at i2
      exact ⟨i, i1, i2, i3, i4⟩
theorem BH_back {pa pb : Nat → Nat} {q k : Nat} {U : Nat → Bool} {f : Nat → Int32} (hd : Dis pa pb q) (h : BH pa pb q (va_up U k true) f) (hk : k < q) (hu : U k = false) (ha : pa k < 6) (hb : pb k < 6) : BH pa pb q U (upd f (pa k) (f (pa k) ^^^ ((1 : Int32) <<< (nI (pb k) &&& 31)))) := by
  intro a ha6
  obtain ⟨M, m1, m2, m3⟩ := h a ha6
  by_cases e : a = pa k
  · subst e
    have hp : 2 ^ pb k < 2 ^ 6 := Nat.pow_lt_pow_right (by omega) hb
    refine ⟨M ^^^ 2 ^ pb k, Nat.xor_lt_two_pow (n := 6) m1 hp, ?_, fun v => ?_⟩
    · rw [pk_us, m2, sh1 _ (by omega), nI_xor _ _ (by omega) (by omega)]
    · have hbit : M.testBit (pb k) = false := by
        cases y : M.testBit (pb k) with
        | false => rfl
        | true =>
          obtain ⟨i, i1, i2, i3, i4⟩ := (m3 _).mp y
          have := hd i k i1 hk i3 i4
          subst this
          rw [vu_s] at i2; cases i2
      rw [tb_xor]
      by_cases ev : pb k = v
      · subst ev
        rw [hbit]
        simp only [decide_true, Bool.false_xor, true_iff]
        exact ⟨k, hk, hu, rfl, rfl⟩
      · rw [decide_eq_false ev, Bool.xor_false, m3]
        constructor
        · rintro ⟨i, i1, i2, i3, i4⟩
          refine ⟨i, i1, ?_, i3, i4⟩
          by_cases y : i = k
          · subst y; rw [vu_s] at i2; cases i2
          · rw [vu_n y] at i2; exact i2
        · rintro ⟨i, i1, i2, i3, i4⟩
          exact ⟨i, i1, by rw [vu_n (fun y => ev (by rw [← y]; exact i4))]; exact i2, i3, i4⟩
  · refine ⟨M, m1, by rw [pk_un e]; exact m2, fun v => ?_⟩
    rw [m3]
    constructor
    · rintro ⟨i, i1, i2, i3, i4⟩
      rw [vu_n (fun y => e (by rw [← i3, y]))] at i2
      exact ⟨i, i1, i2, i3, i4⟩
    · rintro ⟨i, i1, i2, i3, i4⟩
      exact ⟨i, i1, by rw [vu_n (fun y => e (by rw [← i3, y]))]; exact i2, i3, i4⟩
/-! the class's search -/
set_option maxHeartbeats 4000000 in
theorem go_X {N w q : Nat} {pa pb : Nat → Nat} (hN : 100 < N) (hw : w ≤ 6) (hq : q ≤ 12) (hv : ∀ k, k < q → pa k < w ∧ pb k < w) (hd : Dis pa pb q) (hq0 : 0 < q) :
    ∀ (d dd c p : Nat) (U : Nat → Bool) (ring behind : Nat → Int32) (Φ : Int32 → (Nat → Int32) → (Nat → Int32) → Prop), p + d = q → 1 ≤ p → d < dd → c < 6 → BH pa pb q U behind → ring 0 = nI (pa 0) →
      (∀ L ring' behind', sr pa pb w q d c U = some L → (∀ i, i < p → ring' i = ring i) → (∀ j, j < d → ring' (p + j) = nI ((c :: L).getD j 0)) → Φ 1 ring' behind') →
      (sr pa pb w q d c U = none → ∀ ring' behind', BH pa pb q U behind' → (∀ i, i < p → ring' i = ring i) → Φ 0 ring' behind') →
      wp_X0_goesOn N dd (nI c) (nI p) (nI q) ring behind Φ := by
  intro d
  induction d with
  | zero =>
    intro dd c p U ring behind Φ hp hp1 hdd hc hB hr h1 h0
    obtain ⟨e, rfl⟩ : ∃ e, dd = e + 1 := ⟨dd - 1, by omega⟩
    rw [wp_X0_goesOn, show Int32.toNatClampNeg 0 = 0 by decide, hr]
    have h6 := (hv 0 hq0).1
    refine br_t (nI_le (by omega) (by omega)) ?_
    rw [sr] at h1 h0
    by_cases y : c = pa 0
    · rw [if_pos y] at h1
      exact br_t (by rw [y]) (h1 [] ring behind rfl (fun _ _ => rfl) (fun j hj => by omega))
    · rw [if_neg y] at h0
      exact br_f (fun z => y ((nI_eq (by omega) (by omega)).mp z)) (h0 rfl ring behind hB (fun _ _ => rfl))
  | succ d ih =>
    intro dd c p U ring behind Φ hp hp1 hdd hc hB hr h1 h0
    obtain ⟨e, rfl⟩ : ∃ e, dd = e + 1 := ⟨dd - 1, by omega⟩
    rw [wp_X0_goesOn, nI_clamp (show p < 2 ^ 31 by omega)]
    refine br_f (nI_ge (by omega) (by omega)) (br_t (nI_lt (b := 12) (by omega) (by omega)) ⟨in_nI (by omega) (by omega), ?_⟩)
    rw [sr] at h1 h0
    have L : ∀ (l v fuel : Nat) (ring1 behind1 : Nat → Int32), v + l = 6 → l < fuel → BH pa pb q U behind1 → (∀ i, i < p → ring1 i = ring i) → ring1 p = nI c →
        (∀ L, srW pa pb q (sr pa pb w q d) c U (w - v) v = some L → srW pa pb q (sr pa pb w q d) c U w 0 = some L) → (srW pa pb q (sr pa pb w q d) c U (w - v) v = none → srW pa pb q (sr pa pb w q d) c U w 0 = none) →
        lp_X0_goesOn_32 N (wp_X0_goesOn N e) (nI c) (nI p) (nI q) Φ fuel (nI v) ring1 behind1 := by
      intro l
      induction l with
      | zero =>
        intro v fuel ring1 behind1 hvl hf hB1 hr1 hrp hs hn
        obtain ⟨z, rfl⟩ : ∃ z, fuel = z + 1 := ⟨fuel - 1, by omega⟩
        rw [lp_X0_goesOn_32]
        refine br_t (nI_le (a := 6) (by omega) (by omega)) (h0 (hn ?_) ring1 behind1 hB1 hr1)
        rw [show w - v = 0 by omega]; rfl
      | succ l ihl =>
        intro v fuel ring1 behind1 hvl hf hB1 hr1 hrp hs hn
        obtain ⟨z, rfl⟩ : ∃ z, fuel = z + 1 := ⟨fuel - 1, by omega⟩
        obtain ⟨M, m1, m2, m3⟩ := hB1 c hc
        have vc : vp_in (nI c) 6 := in_nI hc (by omega)
        have cc : (nI c).toNatClampNeg = c := nI_clamp (by omega)
        have b1 := bit1 (u := M) (k := v) (by omega) (by omega)
        rw [lp_X0_goesOn_32, cc, m2, nI_1 v, nI_1 p]
        refine br_f (nI_ge (b := 6) (by omega) (by omega)) ⟨vc, br_c (fun y => ⟨vc, vc, ?_⟩) (fun y => ?_)⟩
        · obtain ⟨k, k1, k2, k3, k4⟩ := (m3 v).mp (b1.mp y)
          have hk := hv k k1
          have ew : w - v = (w - (v + 1)) + 1 := by omega
          rw [ew, srW] at hs hn
          have ef : fk pa pb U c v q = some k := by
            cases ee : fk pa pb U c v q with
            | none => exact absurd ⟨k2, k3, k4⟩ (fk_none _ ee k k1)
            | some k' =>
              obtain ⟨z1, z2, z3, z4⟩ := fk_some _ _ ee
              rw [hd k' k z1 k1 (by rw [z3, k3]) (by rw [z4, k4])]
          rw [ef] at hs hn
          have hB2 : BH pa pb q (va_up U k true) (upd behind1 c (nI M ^^^ ((1 : Int32) <<< (nI v &&& 31)))) := by
            have := BH_take hd hB1 k1 k2 (by omega) (by omega)
            rw [k3, k4, m2] at this
            exact this
          refine ih e v (p + 1) (va_up U k true) _ _ _ (by omega) (by omega) (by omega) (by omega) hB2 ?_ (fun Ls ring' behind' hL q1 q2 => ?_) (fun hL ring' behind' q1 q2 => ?_)
          · rw [hr1 0 (by omega)]; exact hr
          · simp only [hL] at hs
            refine br_f (by decide) (h1 (v :: Ls) ring' behind' (hs _ rfl) (fun i hi => ?_) (fun j hj => ?_))
            · rw [q1 i (by omega)]; exact hr1 i hi
            · cases j with
              | zero => rw [show p + 0 = p by omega, q1 p (by omega), hrp]; rfl
              | succ j =>
                rw [show p + (j + 1) = p + 1 + j by omega, q2 j (by omega)]
                rfl
          · simp only [hL] at hs hn
            refine br_t rfl ⟨vc, vc, ?_⟩
            have hB3 : BH pa pb q U (upd behind' c (behind' c ^^^ ((1 : Int32) <<< (nI v &&& 31)))) := by
              have := BH_back hd q1 k1 k2 (by omega) (by omega)
              rw [k3, k4] at this
              exact this
            exact ihl (v + 1) z ring' _ (by omega) (by omega) hB3 (fun i hi => by rw [q2 i (by omega)]; exact hr1 i hi) (by rw [q2 p (by omega)]; exact hrp) hs hn
        · have hno : M.testBit v = false := by
            cases y2 : M.testBit v with
            | false => rfl
            | true => exact absurd (b1.mpr y2) y
          refine ihl (v + 1) z ring1 behind1 (by omega) (by omega) hB1 hr1 hrp ?_ ?_
          · rcases Nat.lt_or_ge v w with c1 | c1
            · have ew : w - v = (w - (v + 1)) + 1 := by omega
              rw [ew, srW] at hs
              have ef : fk pa pb U c v q = none := by
                cases ee : fk pa pb U c v q with
                | none => rfl
                | some k' =>
                  have := (m3 v).mpr ⟨k', fk_some _ _ ee⟩
                  rw [hno] at this; cases this
              rw [ef] at hs
              exact hs
            · rw [show w - v = 0 by omega] at hs
              rw [show w - (v + 1) = 0 by omega]
              exact hs
          · rcases Nat.lt_or_ge v w with c1 | c1
            · have ew : w - v = (w - (v + 1)) + 1 := by omega
              rw [ew, srW] at hn
              have ef : fk pa pb U c v q = none := by
                cases ee : fk pa pb U c v q with
                | none => rfl
                | some k' =>
                  have := (m3 v).mpr ⟨k', fk_some _ _ ee⟩
                  rw [hno] at this; cases this
              rw [ef] at hn
              exact hn
            · rw [show w - v = 0 by omega] at hn
              rw [show w - (v + 1) = 0 by omega]
              exact hn
    refine L 6 0 N _ behind (by omega) (by omega) hB (fun i hi => pk_un (by omega)) pk_us (fun L h => ?_) (fun h => ?_)
    · rw [Nat.sub_zero] at h; exact h
    · rw [Nat.sub_zero] at h; exact h
/-! the reference's search -/
def UB (U : Nat → Bool) (q u : Nat) : Prop := u < 2 ^ 12 ∧ ∀ k, k < q → u.testBit k = U k
set_option maxHeartbeats 4000000 in
theorem ro_M {N w q : Nat} {pa pb : Nat → Nat} {ahead behind : Nat → Int32} (hN : 100 < N) (hw : w ≤ 6) (hP : PR w q pa pb ahead behind) (hd : Dis pa pb q) (hq0 : 0 < q) :
    ∀ (d dd c p u : Nat) (U : Nat → Bool) (round : Nat → Int32) (Φ : Int32 → (Nat → Int32) → Prop), p + d = q → 1 ≤ p → d < dd → c < 6 → UB U q u → round 0 = nI (pa 0) → round p = nI c →
      (∀ L round', sr pa pb w q d c U = some L → (∀ i, i ≤ p → round' i = round i) → (∀ j, j < d → round' (p + 1 + j) = nI (L.getD j 0)) → Φ 1 round') →
      (sr pa pb w q d c U = none → ∀ round', (∀ i, i ≤ p → round' i = round i) → Φ 0 round') →
      wp_X12_isRound N dd (nI p) (nI u) (nI w) (nI q) ahead behind round Φ := by
  obtain ⟨hq, hv, -⟩ := hP
  intro d
  induction d with
  | zero =>
    intro dd c p u U round Φ hp hp1 hdd hc hU hr hrp h1 h0
    obtain ⟨e, rfl⟩ : ∃ e, dd = e + 1 := ⟨dd - 1, by omega⟩
    have h6 := (hv 0 hq0).2.2.1
    rw [wp_X12_isRound, show Int32.toNatClampNeg 0 = 0 by decide, nI_clamp (show p < 2 ^ 31 by omega), hr, hrp]
    refine br_t (by rw [show p = q by omega]) ⟨in_nI (by omega) (by omega), ?_⟩
    rw [sr] at h1 h0
    by_cases y : c = pa 0
    · rw [if_pos y] at h1
      exact br_t (by rw [y]) (h1 [] round rfl (fun _ _ => rfl) (fun j hj => by omega))
    · rw [if_neg y] at h0
      exact br_f (fun z => y ((nI_eq (by omega) (by omega)).mp z)) (h0 rfl round (fun _ _ => rfl))
  | succ d ih =>
    intro dd c p u U round Φ hp hp1 hdd hc hU hr hrp h1 h0
    obtain ⟨e, rfl⟩ : ∃ e, dd = e + 1 := ⟨dd - 1, by omega⟩
    rw [wp_X12_isRound]
    refine br_f (fun y => by have := (nI_eq (by omega) (by omega)).mp y; omega) ?_
    rw [sr] at h1 h0
    have L : ∀ (l v fuel : Nat) (round1 : Nat → Int32), v + l = w → l < fuel → (∀ i, i ≤ p → round1 i = round i) →
        (∀ L, srW pa pb q (sr pa pb w q d) c U l v = some L → srW pa pb q (sr pa pb w q d) c U w 0 = some L) → (srW pa pb q (sr pa pb w q d) c U l v = none → srW pa pb q (sr pa pb w q d) c U w 0 = none) →
        lp_X12_isRound_31 N (wp_X12_isRound N e) (nI p) (nI u) (nI w) (nI q) ahead behind Φ fuel (nI v) round1 := by
      intro l
      induction l with
      | zero =>
        intro v fuel round1 hvl hf hr1 hs hn
        obtain ⟨z, rfl⟩ : ∃ z, fuel = z + 1 := ⟨fuel - 1, by omega⟩
        rw [lp_X12_isRound_31]
        exact br_t (nI_le (by omega) (by omega)) (h0 (hn rfl) round1 hr1)
      | succ l ihl =>
        intro v fuel round1 hvl hf hr1 hs hn
        obtain ⟨z, rfl⟩ : ∃ z, fuel = z + 1 := ⟨fuel - 1, by omega⟩
        rw [lp_X12_isRound_31]
        refine br_f (nI_ge (by omega) (by omega)) ?_
        rw [srW] at hs hn
        have cp : (nI p).toNatClampNeg = p := nI_clamp (by omega)
        have v13 : vp_in (nI p) 13 := in_nI (by omega) (by omega)
        -- the inner loop from pair k on, where no pair from k on goes from c to v
        have skip : ∀ (m k fuel : Nat) (round2 : Nat → Int32), k + m = q → m < fuel → (∀ i, i ≤ p → round2 i = round i) → (∀ j, k ≤ j → j < q → ¬ (U j = false ∧ pa j = c ∧ pb j = v)) →
            (∀ L, srW pa pb q (sr pa pb w q d) c U l (v + 1) = some L → srW pa pb q (sr pa pb w q d) c U w 0 = some L) → (srW pa pb q (sr pa pb w q d) c U l (v + 1) = none → srW pa pb q (sr pa pb w q d) c U w 0 = none) →
            lp_X12_isRound_42 N (wp_X12_isRound N e) (nI p) (nI u) (nI v) (nI w) (nI q) ahead behind Φ (fun round2 => ex_X12_isRound_120 N (wp_X12_isRound N e) (nI p) (nI u) (nI v) (nI w) (nI q) ahead behind round2 Φ (lp_X12_isRound_31 N (wp_X12_isRound N e) (nI p) (nI u) (nI w) (nI q) ahead behind Φ z)) fuel (nI k) round2 := by
          intro m
          induction m with
          | zero =>
            intro k fuel round2 hk hf hr2 hno hs2 hn2
            obtain ⟨y, rfl⟩ : ∃ y, fuel = y + 1 := ⟨fuel - 1, by omega⟩
            rw [lp_X12_isRound_42]
            refine br_t (nI_le (by omega) (by omega)) ?_
            unfold ex_X12_isRound_120
            rw [nI_1 v]
            exact ihl (v + 1) z round2 (by omega) (by omega) hr2 hs2 hn2
          | succ m ihm =>
            intro k fuel round2 hk hf hr2 hno hs2 hn2
            obtain ⟨y, rfl⟩ : ∃ y, fuel = y + 1 := ⟨fuel - 1, by omega⟩
            obtain ⟨a1, a2, a3, a4⟩ := hv k (by omega)
            have v12 : vp_in (nI k) 12 := in_nI (by omega) (by omega)
            have nx := ihm (k + 1) y round2 (by omega) (by omega) hr2 (fun j hj => hno j (by omega)) hs2 hn2
            rw [lp_X12_isRound_42, nI_1 k, nI_clamp (show k < 2 ^ 31 by omega), cp, hr2 p (by omega), hrp, a1, a2]
            have hno' := hno k (Nat.le_refl k) (by omega)
            have b0 := bit0 (u := u) (k := k) (by have := hU.1; omega) (by omega)
            refine br_f (nI_ge (by omega) (by omega)) (br_c (fun c1 => ⟨v12, v13, br_c (fun c2 => ⟨v12, br_c (fun c3 => ?_) (fun _ => nx)⟩) (fun _ => nx)⟩) (fun _ => nx))
            refine absurd ⟨?_, (nI_eq (by omega) (by omega)).mp c2, (nI_eq (by omega) (by omega)).mp c3⟩ hno'
            rw [← hU.2 k (by omega)]; exact b0.mp c1
        cases ef : fk pa pb U c v q with
        | none =>
          rw [ef] at hs hn
          exact skip q 0 N round1 (by omega) (by omega) hr1 (fun j _ hj => fk_none _ ef j hj) hs hn
        | some k0 =>
          rw [ef] at hs hn
          obtain ⟨z1, z2, z3, z4⟩ := fk_some _ _ ef
          have toK : ∀ (m k fuel : Nat) (round2 : Nat → Int32), k + m = k0 → m + (q - k0) < fuel → (∀ i, i ≤ p → round2 i = round i) →
            lp_X12_isRound_42 N (wp_X12_isRound N e) (nI p) (nI u) (nI v) (nI w) (nI q) ahead behind Φ (fun round2 => ex_X12_isRound_120 N (wp_X12_isRound N e) (nI p) (nI u) (nI v) (nI w) (nI q) ahead behind round2 Φ (lp_X12_isRound_31 N (wp_X12_isRound N e) (nI p) (nI u) (nI w) (nI q) ahead behind Φ z)) fuel (nI k) round2 := by
            intro m
            induction m with
            | zero =>
              intro k fuel round2 hk hf hr2
              obtain rfl : k = k0 := by omega
              obtain ⟨y, rfl⟩ : ∃ y, fuel = y + 1 := ⟨fuel - 1, by omega⟩
              obtain ⟨a1, a2, a3, a4⟩ := hv k z1
              have v12 : vp_in (nI k) 12 := in_nI (by omega) (by omega)
              have b0 := bit0 (u := u) (k := k) (by have := hU.1; omega) (by omega)
              have hu := hU.1
              rw [lp_X12_isRound_42, nI_1 k, nI_1 p, nI_clamp (show k < 2 ^ 31 by omega), cp, nI_clamp (show p + 1 < 2 ^ 31 by omega), hr2 p (by omega), hrp, a1, a2, z3, z4, sh1 _ (by omega)]
              have hpk : 2 ^ k < 2 ^ 12 := Nat.pow_lt_pow_right (by omega) (by omega)
              rw [nI_or _ _ (by omega) (by omega)]
              refine br_f (nI_ge (by omega) (by omega)) (br_t (b0.mpr (by rw [hU.2 k z1]; exact z2)) ⟨v12, v13, br_t rfl ⟨v12, br_t rfl ⟨in_nI (by omega) (by omega), ?_⟩⟩⟩)
              refine ih e v (p + 1) (u ||| 2 ^ k) (va_up U k true) _ _ (by omega) (by omega) (by omega) (by omega) ⟨or_bound (k := 12) hu (by omega), fun j hj => ?_⟩ ?_ pk_us (fun Ls round' hL q1 q2 => ?_) (fun hL round' q1 => ?_)
              · rw [tb_or, hU.2 j hj]
                by_cases y2 : k = j
                · subst y2; rw [vu_s]; simp
                · rw [vu_n (fun y3 => y2 y3.symm), decide_eq_false y2, Bool.or_false]
              · rw [pk_un (by omega), hr2 0 (by omega)]; exact hr
              · simp only [hL] at hs
                refine br_f (by decide) (h1 (v :: Ls) round' (hs _ rfl) (fun i hi => ?_) (fun j hj => ?_))
                · rw [q1 i (by omega), pk_un (by omega)]; exact hr2 i hi
                · cases j with
                  | zero => rw [show p + 1 + 0 = p + 1 by omega, q1 (p + 1) (by omega), pk_us]; rfl
                  | succ j =>
                    rw [show p + 1 + (j + 1) = p + 1 + 1 + j by omega, q2 j (by omega)]
                    rfl
              · simp only [hL] at hs hn
                refine br_t rfl (skip (q - (k + 1)) (k + 1) y round' (by omega) (by omega) (fun i hi => ?_) (fun j hj hjq y3 => ?_) hs hn)
                · rw [q1 i (by omega), pk_un (by omega)]; exact hr2 i hi
                · have := hd j k hjq z1 (by rw [y3.2.1, z3]) (by rw [y3.2.2, z4])
                  omega
            | succ m ihm =>
              intro k fuel round2 hk hf hr2
              obtain ⟨y, rfl⟩ : ∃ y, fuel = y + 1 := ⟨fuel - 1, by omega⟩
              obtain ⟨a1, a2, a3, a4⟩ := hv k (by omega)
              have v12 : vp_in (nI k) 12 := in_nI (by omega) (by omega)
              have nx := ihm (k + 1) y round2 (by omega) (by omega) hr2
              rw [lp_X12_isRound_42, nI_1 k, nI_clamp (show k < 2 ^ 31 by omega), cp, hr2 p (by omega), hrp, a1, a2]
              refine br_f (nI_ge (by omega) (by omega)) (br_c (fun c1 => ⟨v12, v13, br_c (fun c2 => ⟨v12, br_c (fun c3 => ?_) (fun _ => nx)⟩) (fun _ => nx)⟩) (fun _ => nx))
              have := hd k k0 (by omega) z1 (by rw [(nI_eq (by omega) (by omega)).mp c2, z3]) (by rw [(nI_eq (by omega) (by omega)).mp c3, z4])
              omega
          exact toK k0 0 N round1 (by omega) (by omega) hr1
    exact L w 0 N round (by omega) (by omega) (fun _ _ => rfl) (fun L h => h) (fun h => h)
