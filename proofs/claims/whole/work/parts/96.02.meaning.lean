theorem fl_xor (flip : Bool) : (if flip then (15 : Int32) else 0) ^^^ 15 = if !flip then 15 else 0 := by cases flip <;> decide
theorem se_xor {s : Nat} (h : s < 16) (flip : Bool) : nI s ^^^ (if flip then (15 : Int32) else 0) = nI (if flip then s ^^^ 15 else s) ∧ (if flip then s ^^^ 15 else s) < 16 := by
  cases flip
  · refine ⟨?_, h⟩
    show nI s ^^^ nI 0 = nI s
    rw [nI_xor _ _ (by omega) (by omega), Nat.xor_zero]
  · refine ⟨?_, (xor15 s h).2⟩
    show nI s ^^^ nI 15 = nI (s ^^^ 15)
    exact nI_xor _ _ (by omega) (by omega)
theorem and16 {a b : Nat} (ha : a < 16) : a &&& b < 16 := Nat.lt_of_le_of_lt Nat.and_le_left ha
theorem or16 {a b : Nat} (ha : a < 16) (hb : b < 16) : a ||| b < 16 := Nat.or_lt_two_pow (n := 4) ha hb
/-- what a reading answers is a SET or 16 -/
theorem mL_le (kd se : Nat → Nat) (stop : Bool) : ∀ (ws : List (Option Nat)) (sum : Nat) (meets begun stands flip : Bool), (∀ v, some v ∈ ws → kd v = 0 → se v < 16) → sum < 16 → mL kd se stop ws sum meets begun stands flip ≤ 16 := by
  intro ws
  induction ws with
  | nil => intro sum meets begun stands flip _ hs; rw [mL]; split <;> omega
  | cons o ws ih =>
    intro sum meets begun stands flip hv hs
    have ih' := fun sum meets begun stands flip hs => ih sum meets begun stands flip (fun v h => hv v (List.mem_cons_of_mem _ h)) hs
    cases o with
    | none => rw [mL]; exact ih' _ _ _ _ _ hs
    | some v =>
      rw [mL]
      split
      · rename_i hk
        have hse := hv v List.mem_cons_self hk
        split
        · omega
        · refine ih' _ _ _ _ _ ?_
          have := (se_xor hse flip).2
          split
          · exact and16 hs
          · exact or16 hs this
      · split
        · split
          · omega
          · exact ih' _ _ _ _ _ hs
        · split
          · split
            · exact ih' _ _ _ _ _ hs
            · omega
          · split
            · split
              · exact ih' _ _ _ _ _ hs
              · omega
            · split
              · split <;> omega
              · exact ih' _ _ _ _ _ hs
set_option maxHeartbeats 4000000 in
theorem mn_X_loop {N n1 : Nat} {kd se : Nat → Nat} {w n st by_ : Nat} {kinds sets p1 : Nat → Int32} {Φ : Int32 → Prop} {k : Int32 → Int32 → Prop} {row : Nat → Option Nat}
    (hw : w ≤ 6) (hn1 : n ≤ n1) (hn1' : n1 ≤ 100) (hst : st ≤ n) (hk : ∀ i, i < w → kinds i = nI (kd i) ∧ kd i ≤ 4) (hs : ∀ i, i < w → sets i = nI (se i) ∧ (kd i = 0 → se i < 16))
    (hr : ∀ i, i < n → p1 i = ow (row i) ∧ ∀ v, row i = some v → v < w) (hkk : ∀ sum stands, Φ (nI (if stands then sum else 16)) → k (nI sum) (bI stands)) (hby : by_ ≤ 4) :
    ∀ (left p fuel sum : Nat) (meets begun stands flip : Bool), p < n → left < fuel → left ≤ 100 → sum < 16 → Φ (nI (mL kd se (by_ == 2) (rdF row n st left p) sum meets begun stands flip)) → lp_X8_meaning_66 N n1 (nI n) (nI by_) (nI st) (nI w) kinds sets p1 Φ k fuel (nI p) (nI sum) (bI meets) (bI begun) (bI stands) (if flip then 15 else 0) (nI left) := by
  intro left
  induction left with
  | zero =>
    intro p fuel sum meets begun stands flip hp hf hl hsum h
    obtain ⟨f, rfl⟩ : ∃ f, fuel = f + 1 := ⟨fuel - 1, by omega⟩
    rw [lp_X8_meaning_66]
    refine br_t (by decide) (hkk _ _ ?_)
    rw [rdF, mL] at h
    exact h
  | succ left ih =>
    intro p fuel sum meets begun stands flip hp hf hl hsum h
    obtain ⟨f, rfl⟩ : ∃ f, fuel = f + 1 := ⟨fuel - 1, by omega⟩
    rw [lp_X8_meaning_66]
    rw [rdF] at h
    obtain ⟨hp1, hro⟩ := hr p hp
    rw [pk_m1 left, nI_clamp (show p < 2 ^ 31 by omega), hp1]
    refine br_f (nI_nle (by omega) (by omega)) ⟨in_nI (by omega) (by omega), ?_⟩
    have hq : (p + st) % n < n := Nat.mod_lt _ (by omega)
    have hm := modLt hp hst
    generalize (p + st) % n = q at h hq hm
    have ih := fun sum meets begun stands flip => ih q f sum meets begun stands flip hq (by omega) (by omega)
    refine br_c (fun c => ?_) (fun c => ?_)
    all_goals
      first
        | (have e : nI p + nI st = nI q := by
            rw [nI_add] at c ⊢
            have c' := (nI_ltI (by omega) (by omega)).mp c
            rw [hm, if_pos c'])
        | (have e : nI p + nI st - nI n = nI q := by
            rw [nI_add] at c ⊢
            have c' : ¬ p + st < n := fun z => c ((nI_ltI (by omega) (by omega)).mpr z)
            rw [hm, if_neg c', pk_sub (by omega)])
      rw [e]
      clear c e
      cases ho : row p with
      | none =>
        rw [ho, mL] at h
        have R := ih sum meets begun stands flip hsum h
        exact hw_none (br_t rfl ⟨fun _ => ⟨fun _ => R, fun _ => br_t rfl R⟩, fun _ => R⟩)
      | some v =>
        rw [ho, mL] at h
        have hv := hro v ho
        obtain ⟨hkv, hk4⟩ := hk v hv
        obtain ⟨hsv, hs16⟩ := hs v hv
        show wp_X8_hasWord N (nI v) _ _
        refine hw_some hv (by omega) (br_f (by decide) ⟨in_nI (by omega) (by omega), ?_⟩)
        show _ ∧ _
        have hcv : (ow (some v)).toNatClampNeg = v := nI_clamp (show v < 2 ^ 31 by omega)
        rw [hcv, hkv, hsv]
        rcases (show kd v = 0 ∨ kd v = 1 ∨ kd v = 2 ∨ kd v = 3 ∨ kd v = 4 by omega) with a | a | a | a | a
        · rw [a] at h ⊢
          rw [if_pos rfl] at h
          refine br_f (by decide) (br_f (by decide) (br_f (by decide) ?_))
          cases stands with
          | true => exact br_f (by decide) h
          | false =>
            obtain ⟨e1, e2⟩ := se_xor (hs16 a) flip
            rw [e1]
            generalize (if flip then se v ^^^ 15 else se v) = z at h e2
            refine br_t rfl (br_f (by decide) ⟨in_nI (by omega) (by omega), ?_⟩)
            rw [nI_and _ _ (by omega) (by omega), nI_or _ _ (by omega) (by omega)]
            cases meets with
            | true => exact br_f (by decide) (ih _ true true true false (and16 hsum) h)
            | false => exact br_t rfl (ih _ false true true false (or16 hsum e2) h)
        · rw [a] at h ⊢
          rw [if_neg (by decide), if_pos rfl] at h
          refine br_f (by decide) (br_f (by decide) (br_f (by decide) ?_))
          cases stands with
          | true => exact br_f (by decide) h
          | false =>
            rw [fl_xor]
            exact br_t rfl (br_t rfl (ih _ _ _ _ _ hsum h))
        · rw [a] at h ⊢
          rw [if_neg (by decide), if_neg (by decide), if_pos rfl] at h
          refine br_f (by decide) (br_t rfl ?_)
          cases stands with
          | false => exact br_t rfl h
          | true => exact br_f (by decide) (br_t rfl (ih sum true begun false flip hsum h))
        · rw [a] at h ⊢
          rw [if_neg (by decide), if_neg (by decide), if_neg (by decide), if_pos rfl] at h
          refine br_f (by decide) (br_f (by decide) (br_t rfl ?_))
          cases stands with
          | false => exact br_t rfl h
          | true => exact br_f (by decide) (br_f (by decide) (ih sum false begun false flip hsum h))
        · rw [a] at h ⊢
          rw [if_neg (by decide), if_neg (by decide), if_neg (by decide), if_neg (by decide)] at h
          refine br_t rfl ?_
          have hm1 : ¬ ow (some v) = -1 := nI_m1 (by omega)
          by_cases hb2 : by_ = 2
          · subst hb2
            refine br_t rfl ?_
            cases begun with
            | false => exact br_t rfl (ih _ _ _ _ _ hsum h)
            | true => exact br_f (by decide) (br_f hm1 (hkk _ _ h))
          · have hb2' : (by_ == 2) = false := by simp [hb2]
            rw [hb2'] at h
            refine br_f (fun z => hb2 ((nI_eq (b := 2) (by omega) (by omega)).mp z)) ?_
            rw [hb2'] at ih
            exact ih _ _ _ _ _ hsum h
/-- meaning of the class, from a place -/
theorem mn_X {N n1 : Nat} {kd se : Nat → Nat} {w n p by_ : Nat} {kinds sets p1 : Nat → Int32} {Φ : Int32 → Prop} {row : Nat → Option Nat}
    (hN : 100 < N) (hw : w ≤ 6) (hn1 : n ≤ n1) (hn1' : n1 ≤ 90) (hp : p < n) (hk : ∀ i, i < w → kinds i = nI (kd i) ∧ kd i ≤ 4) (hs : ∀ i, i < w → sets i = nI (se i) ∧ (kd i = 0 → se i < 16))
    (hr : ∀ i, i < n → p1 i = ow (row i) ∧ ∀ v, row i = some v → v < w) (hby : by_ ≤ 4) (h : Φ (nI (mean kd se row n p by_))) : wp_X8_meaning N n1 (nI n) (nI p) (nI by_) (nI w) kinds sets p1 Φ := by
  unfold wp_X8_meaning
  refine br_f (fun c => nI_nlt (a := n) (b := 1) (by omega) (by omega) c) (br_f (fun c => nI_nlt (a := n1) (b := n) hn1 (by omega) c) (br_f (nI_pos (by omega)) (br_t (nI_lt hp (by omega)) ?_)))
  have hkk : ∀ (sum : Nat) (stands : Bool), Φ (nI (if stands then sum else 16)) → ex_X8_meaning_254 N n1 (nI sum) (bI stands) (nI w) kinds sets p1 Φ := by
    intro sum stands hh
    cases stands with
    | true => exact br_f (by decide) hh
    | false => exact br_t rfl hh
  have core : ∀ (st : Nat), st ≤ n → rdF row n st = rdF row n (stepOf n by_) → ((nI by_ = 4 → lp_X8_meaning_66 N n1 (nI n) (nI by_) (nI st) (nI w) kinds sets p1 Φ (fun x7 x10 => ex_X8_meaning_254 N n1 x7 x10 (nI w) kinds sets p1 Φ) N (nI p) 0 0 0 0 0 ((nI n + 1) / 2)) ∧ (¬ nI by_ = 4 → lp_X8_meaning_66 N n1 (nI n) (nI by_) (nI st) (nI w) kinds sets p1 Φ (fun x7 x10 => ex_X8_meaning_254 N n1 x7 x10 (nI w) kinds sets p1 Φ) N (nI p) 0 0 0 0 0 (nI n))) := by
    intro st hst he
    unfold mean at h
    rw [← he] at h
    refine br_c (fun c => ?_) (fun c => ?_)
    · have hb : by_ = 4 := (nI_eq (b := 4) (by omega) (by omega)).mp c
      have e2 : (nI n + 1) / 2 = nI ((n + 1) / 2) := by
        rw [nI_1]; exact pk_div (d := 2) (by omega) (by omega) (by omega)
      rw [e2]
      rw [show manyOf n by_ = (n + 1) / 2 by simp [manyOf, hb]] at h
      exact mn_X_loop hw hn1 (by omega) hst hk hs hr hkk hby _ p N 0 false false false false hp (by omega) (by omega) (by omega) h
    · have hb : ¬ by_ = 4 := fun z => c (by rw [z]; rfl)
      rw [show manyOf n by_ = n by simp [manyOf, hb]] at h
      exact mn_X_loop hw hn1 (by omega) hst hk hs hr hkk hby _ p N 0 false false false false hp (by omega) (by omega) (by omega) h
  unfold wp_X8_strideOf
  refine br_c (fun c => ?_) (fun c => br_c (fun c2 => br_t ?_ ⟨nI_ne0 (by omega) (by omega), ?_⟩) (fun c2 => ?_))
  · have hb : by_ = 1 := (nI_eq (b := 1) (by omega) (by omega)).mp c
    rw [show nI n - 1 = nI (n - 1) from pk_sub (b := 1) (by omega)]
    exact core (n - 1) (by omega) (by simp [stepOf, hb])
  · exact nI_le (a := 1) (by omega) (by omega)
  · have hb : by_ = 3 := (nI_eq (b := 3) (by omega) (by omega)).mp c2
    rw [show (2 : Int32) - 2 / nI n * nI n = nI (2 % n) from pk_rem (a := 2) (by omega) (by omega) (by omega)]
    refine core (2 % n) (Nat.le_of_lt (Nat.mod_lt _ (by omega))) ?_
    funext l q
    rw [rdF_mod]
    simp [stepOf, hb]
  · have hb : ¬ by_ = 1 := fun z => c (by rw [z]; rfl)
    have hb3 : ¬ by_ = 3 := fun z => c2 (by rw [z]; rfl)
    exact core 1 (by omega) (by simp [stepOf, hb, hb3])
theorem mn_X0 {N n1 : Nat} {x3 x4 v : Int32} {kinds sets p1 : Nat → Int32} {Φ : Int32 → Prop} (h : Φ 16) : wp_X8_meaning N n1 (nI 0) x3 x4 v kinds sets p1 Φ := by
  unfold wp_X8_meaning
  exact br_t (by decide) h
set_option maxHeartbeats 4000000 in
theorem mn_M_loop {N n1 : Nat} {kd se : Nat → Nat} {w n st by_ many : Nat} {kinds sets p1 : Nat → Int32} {Φ : Int32 → Prop} {kk : Int32 → Int32 → Int32 → Prop} {row : Nat → Option Nat}
    (hw : w ≤ 6) (hn1 : n ≤ n1) (hn1' : n1 ≤ 100) (hst : st ≤ 100) (hm : many ≤ 100) (hk : ∀ i, i < w → kinds i = nI (kd i) ∧ kd i ≤ 4) (hs : ∀ i, i < w → sets i = nI (se i) ∧ (kd i = 0 → se i < 16))
    (hr : ∀ i, i < n → p1 i = ow (row i) ∧ ∀ v, row i = some v → v < w) (hkk : ∀ sum stands, Φ (nI (if stands then sum else 16)) → kk (nI sum) (bI (!stands)) 1) (hke : ∀ a b, Φ 16 → kk a b 0) (hby : by_ ≤ 4) :
    ∀ (left j p fuel sum : Nat) (meets begun stands flip : Bool), p < n → left < fuel → j + left = many → sum < 16 → Φ (nI (mL kd se (by_ == 2) (rdF row n st left p) sum meets begun stands flip)) → lp_X12_means_69 N n1 (nI n) (nI by_) (nI many) (nI st) kinds sets p1 Φ kk fuel (nI p) (nI sum) (if meets then 2 else 3) (bI begun) (bI (!stands)) (bI flip) 1 0 (nI j) := by
  have err : ∀ (f : Nat) (a b c d e g : Int32) (q r : Int32), 0 < f → Φ 16 → lp_X12_means_69 N n1 (nI n) (nI by_) (nI many) (nI st) kinds sets p1 Φ kk f a b c d e g 0 q r := by
    intro f a b c d e g q r hf h
    obtain ⟨f, rfl⟩ : ∃ z, f = z + 1 := ⟨f - 1, by omega⟩
    rw [lp_X12_means_69]
    exact ⟨fun _ => hke _ _ h, fun _ => br_t rfl (hke _ _ h)⟩
  intro left
  induction left with
  | zero =>
    intro j p fuel sum meets begun stands flip hp hf hl hsum h
    obtain ⟨f, rfl⟩ : ∃ f, fuel = f + 1 := ⟨fuel - 1, by omega⟩
    rw [lp_X12_means_69]
    refine br_t (nI_le (by omega) (by omega)) (hkk _ _ ?_)
    rw [rdF, mL] at h
    exact h
  | succ left ih =>
    intro j p fuel sum meets begun stands flip hp hf hl hsum h
    obtain ⟨f, rfl⟩ : ∃ f, fuel = f + 1 := ⟨fuel - 1, by omega⟩
    rw [lp_X12_means_69]
    rw [rdF] at h
    obtain ⟨hp1, hro⟩ := hr p hp
    have hq : (p + st) % n < n := Nat.mod_lt _ (by omega)
    have e : (nI p + nI st) - (nI p + nI st) / nI n * nI n = nI ((p + st) % n) := by rw [nI_add]; exact pk_rem (by omega) (by omega) (by omega)
    rw [nI_1 j, nI_clamp (show p < 2 ^ 31 by omega), hp1, e]
    refine br_f (nI_ge (by omega) (by omega)) (br_f (by decide) (br_t rfl ⟨in_nI (by omega) (by omega), nI_ne0 (by omega) (by omega), ?_⟩))
    generalize (p + st) % n = q at h hq
    have ih := fun sum meets begun stands flip => ih (j + 1) q f sum meets begun stands flip hq (by omega) (by omega)
    have hf0 : 0 < f := by omega
    cases ho : row p with
    | none =>
      rw [ho, mL] at h
      exact br_t rfl (ih sum meets begun stands flip hsum h)
    | some v =>
      rw [ho, mL] at h
      have hv := hro v ho
      obtain ⟨hkv, hk4⟩ := hk v hv
      obtain ⟨hsv, hs16⟩ := hs v hv
      have hcv : (ow (some v)).toNatClampNeg = v := nI_clamp (show v < 2 ^ 31 by omega)
      have hvi : vp_in (ow (some v)) 6 := in_nI (show v < 6 by omega) (by omega)
      rw [hcv, hkv, hsv]
      refine br_f (nI_m1 (show v < 2 ^ 31 by omega)) ⟨hvi, ?_⟩
      rcases (show kd v = 0 ∨ kd v = 1 ∨ kd v = 2 ∨ kd v = 3 ∨ kd v = 4 by omega) with a | a | a | a | a
      · rw [a] at h ⊢
        rw [if_pos rfl] at h
        refine ⟨fun _ => ?_, fun z => absurd z (by decide), fun z => absurd z (by decide), fun z => absurd z (by decide), fun z => absurd rfl z⟩
        have h16 := hs16 a
        have e15 : (15 : Int32) - nI (se v) = nI (se v ^^^ 15) := by rw [(xor15 _ h16).1]; exact pk_sub (a := 15) (by omega)
        have x16 := (xor15 _ h16).2
        rw [e15, nI_and _ _ (by omega) (by omega), nI_or _ _ (by omega) (by omega), nI_and _ _ (by omega) (by omega), nI_or _ _ (by omega) (by omega)]
        cases stands with
        | true =>
          have E := fun a b c d e g q r => err f a b c d e g q r hf0 h
          exact ⟨fun _ => ⟨hvi, fun _ => E _ _ _ _ _ _ _ _, fun _ => E _ _ _ _ _ _ _ _⟩, fun _ => ⟨hvi, fun _ => E _ _ _ _ _ _ _ _, fun _ => E _ _ _ _ _ _ _ _⟩⟩
        | false =>
          cases flip with
          | false =>
            refine br_t rfl ⟨hvi, ?_⟩
            cases meets with
            | true => exact br_t rfl (ih _ true true true false (and16 hsum) h)
            | false => exact br_f (by decide) (ih _ false true true false (or16 hsum h16) h)
          | true =>
            refine br_f (by decide) ⟨hvi, ?_⟩
            cases meets with
            | true => exact br_t rfl (ih _ true true true false (and16 hsum) h)
            | false => exact br_f (by decide) (ih _ false true true false (or16 hsum x16) h)
      · rw [a] at h ⊢
        rw [if_neg (by decide), if_pos rfl] at h
        refine ⟨fun z => absurd z (by decide), fun _ => ?_, fun z => absurd z (by decide), fun z => absurd z (by decide), fun _ z => absurd rfl z⟩
        cases stands with
        | true =>
          have E := fun a b c d e g q r => err f a b c d e g q r hf0 h
          exact ⟨fun _ => E _ _ _ _ _ _ _ _, fun _ => E _ _ _ _ _ _ _ _⟩
        | false =>
          cases flip with
          | false => exact br_t rfl (ih sum meets begun false true hsum h)
          | true => exact br_f (by decide) (ih sum meets begun false false hsum h)
      · rw [a] at h ⊢
        rw [if_neg (by decide), if_neg (by decide), if_pos rfl] at h
        refine ⟨fun z => absurd z (by decide), fun z => absurd z (by decide), fun _ => ?_, fun z => absurd z (by decide), fun _ _ z => absurd rfl z⟩
        cases stands with
        | false => exact br_f (by decide) ⟨hvi, err f _ _ _ _ _ _ _ _ hf0 h⟩
        | true => exact br_t rfl ⟨hvi, ih sum true begun false flip hsum h⟩
      · rw [a] at h ⊢
        rw [if_neg (by decide), if_neg (by decide), if_neg (by decide), if_pos rfl] at h
        refine ⟨fun z => absurd z (by decide), fun z => absurd z (by decide), fun z => absurd z (by decide), fun _ => ?_, fun _ _ _ z => absurd rfl z⟩
        cases stands with
        | false => exact br_f (by decide) ⟨hvi, err f _ _ _ _ _ _ _ _ hf0 h⟩
        | true => exact br_t rfl ⟨hvi, ih sum false begun false flip hsum h⟩
      · rw [a] at h ⊢
        rw [if_neg (by decide), if_neg (by decide), if_neg (by decide), if_neg (by decide)] at h
        refine ⟨fun z => absurd z (by decide), fun z => absurd z (by decide), fun z => absurd z (by decide), fun z => absurd z (by decide), fun _ _ _ _ => ?_⟩
        by_cases hb2 : by_ = 2
        · subst hb2
          refine br_t rfl ?_
          cases begun with
          | false => exact br_t rfl (ih _ _ _ _ _ hsum h)
          | true =>
            refine br_f (by decide) ?_
            obtain ⟨f, rfl⟩ : ∃ z, f = z + 1 := ⟨f - 1, by omega⟩
            rw [lp_X12_means_69]
            have hz := hkk _ _ h
            exact ⟨fun _ => hz, fun _ => br_f (by decide) (br_f (by decide) hz)⟩
        · have hb2' : (by_ == 2) = false := by simp [hb2]
          rw [hb2'] at h ih
          refine br_f (fun z => hb2 ((nI_eq (b := 2) (by omega) (by omega)).mp z)) ?_
          exact ih _ _ _ _ _ hsum h
/-- means of the reference, from a place -/
theorem mn_M {N n1 : Nat} {kd se : Nat → Nat} {w n p by_ : Nat} {kinds sets p1 : Nat → Int32} {Φ : Int32 → Prop} {row : Nat → Option Nat}
    (hN : 100 < N) (hw : w ≤ 6) (hn1 : n ≤ n1) (hn1' : n1 ≤ 90) (hp : p < n) (hk : ∀ i, i < w → kinds i = nI (kd i) ∧ kd i ≤ 4) (hs : ∀ i, i < w → sets i = nI (se i) ∧ (kd i = 0 → se i < 16))
    (hr : ∀ i, i < n → p1 i = ow (row i) ∧ ∀ v, row i = some v → v < w) (hby : by_ ≤ 4) (h : Φ (nI (mean kd se row n p by_))) : wp_X12_means N n1 (nI n) (nI p) (nI by_) kinds sets p1 Φ := by
  have hkk : ∀ (sum : Nat) (stands : Bool), Φ (nI (if stands then sum else 16)) → ex_X12_means_278 N n1 (nI sum) (bI (!stands)) 1 kinds sets p1 Φ := by
    intro sum stands hh
    refine br_f (by decide) ?_
    cases stands with
    | true => exact br_t rfl hh
    | false => exact br_f (by decide) hh
  have hke : ∀ a b, Φ 16 → ex_X12_means_278 N n1 a b 0 kinds sets p1 Φ := fun a b hh => br_t rfl hh
  have e2 : (nI n + 1) / 2 = nI ((n + 1) / 2) := by
    rw [nI_1]; exact pk_div (d := 2) (by omega) (by omega) (by omega)
  have e1 : nI n - 1 = nI (n - 1) := pk_sub (b := 1) (by omega)
  have core : ∀ (st many : Nat), st ≤ 100 → many ≤ 100 → stepOf n by_ = st → manyOf n by_ = many → lp_X12_means_69 N n1 (nI n) (nI by_) (nI many) (nI st) kinds sets p1 Φ (fun x8 x11 x13 => ex_X12_means_278 N n1 x8 x11 x13 kinds sets p1 Φ) N (nI p) 0 3 0 1 0 1 0 0 := by
    intro st many h1 h2 h3 h4
    unfold mean at h
    rw [h3, h4] at h
    exact mn_M_loop hw hn1 (by omega) h1 h2 hk hs hr hkk hke hby many 0 p N 0 false false false false hp (by omega) (by omega) (by omega) h
  unfold wp_X12_means
  rw [e2, e1]
  have ne : ∀ k : Nat, k < 2 ^ 31 → ¬ nI by_ = nI k → ¬ by_ = k := fun k _ z y => z (by rw [y])
  refine br_c (fun c => ?_) (fun c => ?_)
  · have hb : by_ = 4 := (nI_eq (b := 4) (by omega) (by omega)).mp c
    refine br_f (fun z => ?_) (br_f (fun z => ?_) ?_)
    · have := (nI_eq (b := 1) (by omega) (by omega)).mp z; omega
    · have := (nI_eq (b := 3) (by omega) (by omega)).mp z; omega
    · exact core 1 _ (by omega) (by omega) (by simp [stepOf, hb]) (by simp [manyOf, hb])
  · have hb4 := ne 4 (by omega) c
    refine br_c (fun c1 => ?_) (fun c1 => br_c (fun c3 => ?_) (fun c3 => ?_))
    · have hb : by_ = 1 := (nI_eq (b := 1) (by omega) (by omega)).mp c1
      exact core _ _ (by omega) (by omega) (by simp [stepOf, hb]) (by simp [manyOf, hb4])
    · have hb : by_ = 3 := (nI_eq (b := 3) (by omega) (by omega)).mp c3
      exact core 2 _ (by omega) (by omega) (by simp [stepOf, hb]) (by simp [manyOf, hb4])
    · have h1 := ne 1 (by omega) c1
      have h3 := ne 3 (by omega) c3
      exact core 1 _ (by omega) (by omega) (by simp [stepOf, h1, h3]) (by simp [manyOf, hb4])
