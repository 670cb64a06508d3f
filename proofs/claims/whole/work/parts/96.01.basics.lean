/-! the pure part. Words, rows, readings in Nat; ow: a place's word, none is BLANK -/
def ow (o : Option Nat) : Int32 := match o with
  | none => -1
  | some w => nI w
def bI (b : Bool) : Int32 := if b then 1 else 0
/-- what is read of a row of words: sum, meets, begun, stands, flip -/
def mL (kd se : Nat → Nat) (stop : Bool) : List (Option Nat) → Nat → Bool → Bool → Bool → Bool → Nat
  | [], sum, _, _, stands, _ => if stands then sum else 16
  | none :: ws, sum, meets, begun, stands, flip => mL kd se stop ws sum meets begun stands flip
  | some w :: ws, sum, meets, begun, stands, flip =>
      if kd w = 0 then (if stands then 16 else mL kd se stop ws (if meets then sum &&& (if flip then se w ^^^ 15 else se w) else sum ||| (if flip then se w ^^^ 15 else se w)) meets true true false)
      else if kd w = 1 then (if stands then 16 else mL kd se stop ws sum meets begun stands (!flip))
      else if kd w = 2 then (if stands then mL kd se stop ws sum true begun false flip else 16)
      else if kd w = 3 then (if stands then mL kd se stop ws sum false begun false flip else 16)
      else (if stop && begun then (if stands then sum else 16) else mL kd se stop ws sum meets begun stands flip)
/-- the words from place p on, l of them, by steps of st round n places -/
def rdF (row : Nat → Option Nat) (n st : Nat) : Nat → Nat → List (Option Nat)
  | 0, _ => []
  | l + 1, p => row p :: rdF row n st l ((p + st) % n)
def stepOf (n by_ : Nat) : Nat := if by_ = 1 then n - 1 else if by_ = 3 then 2 else 1
def manyOf (n by_ : Nat) : Nat := if by_ = 4 then (n + 1) / 2 else n
/-- MEANS from a place by a kind of reader -/
def mean (kd se : Nat → Nat) (row : Nat → Option Nat) (n p by_ : Nat) : Nat := mL kd se (by_ == 2) (rdF row n (stepOf n by_) (manyOf n by_) p) 0 false false false false
theorem rdF_mod (row : Nat → Option Nat) (n st : Nat) : ∀ l p, rdF row n (st % n) l p = rdF row n st l p := by
  intro l
  induction l with
  | zero => intro p; rfl
  | succ l ih => intro p; rw [rdF, rdF, ih]; simp [Nat.add_mod]
theorem nI_and (a b : Nat) (ha : a < 2 ^ 31) (hb : b < 2 ^ 31) : nI a &&& nI b = nI (a &&& b) := by
  apply Int32.toBitVec_inj.mp
  apply BitVec.eq_of_toNat_eq
  have h : (a &&& b) < 2 ^ 31 := Nat.lt_of_le_of_lt Nat.and_le_left ha
  rw [Int32.toBitVec_and, BitVec.toNat_and, pk_tn (by omega), pk_tn (by omega), pk_tn (by omega)]
theorem nI_or (a b : Nat) (ha : a < 2 ^ 31) (hb : b < 2 ^ 31) : nI a ||| nI b = nI (a ||| b) := by
  apply Int32.toBitVec_inj.mp
  apply BitVec.eq_of_toNat_eq
  have h : (a ||| b) < 2 ^ 31 := Nat.or_lt_two_pow ha hb
  rw [Int32.toBitVec_or, BitVec.toNat_or, pk_tn (by omega), pk_tn (by omega), pk_tn (by omega)]
theorem nI_xor (a b : Nat) (ha : a < 2 ^ 31) (hb : b < 2 ^ 31) : nI a ^^^ nI b = nI (a ^^^ b) := by
  apply Int32.toBitVec_inj.mp
  apply BitVec.eq_of_toNat_eq
  have h : (a ^^^ b) < 2 ^ 31 := Nat.xor_lt_two_pow ha hb
  rw [Int32.toBitVec_xor, BitVec.toNat_xor, pk_tn (by omega), pk_tn (by omega), pk_tn (by omega)]
theorem xor15 : ∀ s, s < 16 → s ^^^ 15 = 15 - s ∧ s ^^^ 15 < 16 := by decide
theorem hw_none {N : Nat} {v : Int32} {Φ : Int32 → Prop} (h : Φ 0) : wp_X8_hasWord N (-1) v Φ := ⟨fun _ => h, fun c => absurd (by decide) c⟩
theorem hw_some {N j w : Nat} {Φ : Int32 → Prop} (hj : j < w) (hw : w < 2 ^ 31) (h : Φ 1) : wp_X8_hasWord N (nI j) (nI w) Φ := ⟨fun c => absurd c (nI_pos (by omega)), fun _ => ⟨fun c => absurd c (nI_ge hj hw), fun _ => h⟩⟩
theorem hw_not {N j w : Nat} {Φ : Int32 → Prop} (hj : w ≤ j) (hw : j < 2 ^ 31) (h : Φ 0) : wp_X8_hasWord N (nI j) (nI w) Φ := ⟨fun c => absurd c (nI_pos (by omega)), fun _ => ⟨fun _ => h, fun c => absurd (nI_le hj hw) c⟩⟩
theorem hw_neg {N : Nat} {x v : Int32} {Φ : Int32 → Prop} (hx : x < 0) (h : Φ 0) : wp_X8_hasWord N x v Φ := ⟨fun _ => h, fun c => absurd hx c⟩
theorem in_nI {j n : Nat} (h : j < n) (hn : n < 2 ^ 31) : vp_in (nI j) n := vp_in_nI h hn
theorem nI_m1 {j : Nat} (h : j < 2 ^ 31) : ¬ nI j = -1 := fun e => by
  have h1 := congrArg Int32.toInt e
  rw [nI_toInt h] at h1
  have h2 : (-1 : Int32).toInt = -1 := by decide
  rw [h2] at h1
  omega
theorem modLt {p st n : Nat} (hp : p < n) (hst : st ≤ n) : (p + st) % n = if p + st < n then p + st else p + st - n := by
  split
  · exact Nat.mod_eq_of_lt ‹_›
  · rw [Nat.mod_eq_sub_mod (by omega), Nat.mod_eq_of_lt (by omega)]
