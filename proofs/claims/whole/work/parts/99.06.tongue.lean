/-! all STATEMENTS of a text; what they add -/
abbrev ST := Nat × QT
def frm (s : Nat → Nat) (t : Nat) : Nat → Nat → Nat × Option (List ST)
  | 0, p => (p, none)
  | f + 1, p => if t ≤ p then (p, some []) else match (stm s t p).2 with
    | none => ((stm s t p).1, none)
    | some x => match (frm s t f (stm s t p).1).2 with
      | none => ((frm s t f (stm s t p).1).1, none)
      | some L => ((frm s t f (stm s t p).1).1, some ((p, x) :: L))
def Ch (s : Nat → Nat) (t : Nat) : List ST → Nat → Prop
  | [], p => t ≤ p
  | y :: L, p => y.1 = p ∧ p < t ∧ ∃ e, stm s t p = (e, some y.2) ∧ Ch s t L e
def tpf (s : Nat → Nat) (t : Nat) : Nat × Option (List ST) := if t = 0 then (0, none) else frm s t 67 0
theorem frm_end {s : Nat → Nat} {t f p : Nat} (h : t ≤ p) : frm s t (f + 1) p = (p, some []) := by rw [frm, if_pos h]
theorem frm_no1 {s : Nat → Nat} {t f p e : Nat} (h : p < t) (hs : stm s t p = (e, none)) : frm s t (f + 1) p = (e, none) := by rw [frm, if_neg (by omega), hs]
theorem frm_no2 {s : Nat → Nat} {t f p e e' : Nat} {x : QT} (h : p < t) (hs : stm s t p = (e, some x)) (hf : frm s t f e = (e', none)) : frm s t (f + 1) p = (e', none) := by
  rw [frm, if_neg (by omega), hs]
  dsimp only
  rw [hf]
theorem frm_ok2 {s : Nat → Nat} {t f p e e' : Nat} {x : QT} {L : List ST} (h : p < t) (hs : stm s t p = (e, some x)) (hf : frm s t f e = (e', some L)) : frm s t (f + 1) p = (e', some ((p, x) :: L)) := by
  rw [frm, if_neg (by omega), hs]
  dsimp only
  rw [hf]
theorem frm_ch {s : Nat → Nat} {t : Nat} : ∀ f p e L, frm s t f p = (e, some L) → Ch s t L p := by
  intro f
  induction f with
  | zero => intro p e L h; cases h
  | succ f ih =>
    intro p e L h
    by_cases c : t ≤ p
    · rw [frm_end c] at h; cases h; exact c
    · cases hs : stm s t p with
      | mk e1 o =>
        cases o with
        | none => rw [frm_no1 (by omega) hs] at h; cases h
        | some x =>
          cases hf : frm s t f e1 with
          | mk e2 o2 =>
            cases o2 with
            | none => rw [frm_no2 (by omega) hs hf] at h; cases h
            | some M =>
              rw [frm_ok2 (by omega) hs hf] at h
              cases h
              exact ⟨rfl, by omega, e1, hs, ih _ _ _ hf⟩
theorem frm_le {s : Nat → Nat} {t : Nat} : ∀ f p e, p ≤ t → frm s t f p = (e, none) → e ≤ t := by
  intro f
  induction f with
  | zero => intro p e hp h; cases h; exact hp
  | succ f ih =>
    intro p e hp h
    by_cases c : t ≤ p
    · rw [frm_end c] at h; cases h
    · cases hs : stm s t p with
      | mk e1 o =>
        cases o with
        | none => rw [frm_no1 (by omega) hs] at h; cases h; exact stm_no hp hs
        | some x =>
          have hb := stm_bd (k := x.1) (a := x.2.1) (b := x.2.2.1) (c := x.2.2.2) hs
          cases hf : frm s t f e1 with
          | mk e2 o2 =>
            cases o2 with
            | none => rw [frm_no2 (by omega) hs hf] at h; cases h; exact ih _ _ hb.2.1 hf
            | some M => rw [frm_ok2 (by omega) hs hf] at h; cases h
theorem ch_len {s : Nat → Nat} {t : Nat} : ∀ (L : List ST) (p : Nat), p ≤ t → Ch s t L p → L.length + p ≤ t := by
  intro L
  induction L with
  | nil => intro p hp h; show 0 + p ≤ t; omega
  | cons y L ih =>
    intro p hp h
    obtain ⟨h1, h2, e, hs, hc⟩ := h
    have hb := stm_bd (k := y.2.1) (a := y.2.2.1) (b := y.2.2.2.1) (c := y.2.2.2.2) hs
    have := ih e hb.2.1 hc
    rw [List.length_cons]
    omega
theorem tpf_ok {s : Nat → Nat} {t e : Nat} {L : List ST} (h : tpf s t = (e, some L)) : Ch s t L 0 ∧ 1 ≤ L.length ∧ L.length ≤ t := by
  unfold tpf at h
  by_cases c : t = 0
  · rw [if_pos c] at h; cases h
  · rw [if_neg c] at h
    have hc := frm_ch _ _ _ _ h
    have := ch_len L 0 (by omega) hc
    refine ⟨hc, ?_, by omega⟩
    cases L with
    | nil => exact absurd (show t ≤ 0 from hc) (by omega)
    | cons y L => rw [List.length_cons]; omega
theorem tpf_le {s : Nat → Nat} {t e : Nat} (h : tpf s t = (e, none)) : e ≤ t := by
  unfold tpf at h
  by_cases c : t = 0
  · rw [if_pos c] at h; cases h; omega
  · rw [if_neg c] at h; exact frm_le _ _ _ (by omega) h
theorem stm_0 {s : Nat → Nat} : stm s 0 0 = (0, none) := by
  have : ldK s 0 0 = none := by unfold ldK; rw [if_neg (by omega)]
  simp [stm, this]
/-! the first pass: has it the form? -/
theorem hf_X {N t : Nat} {s : Nat → Nat} {f : Nat → Int32} {Φ : Int32 → Int32 → Int32 → Int32 → Int32 → (Nat → Int32) → Prop} (hN : 100 < N) (hT : TP s t f) :
    ∀ (g p i fuel : Nat) (read reader lead : Int32) (nb : Nat → Int32), p ≤ t → t - p < g → i < p → t - p + 1 < fuel → (∀ e, frm s t g p = (e, none) → ∀ read reader lead nb, Φ 0 read reader lead (nI e) nb) → (∀ e L, frm s t g p = (e, some L) → ∀ read reader lead nb, Φ 1 read reader lead (nI e) nb) → lp_X7_hasForm_13 N (nI t) f Φ fuel 1 (nI i) read reader lead (nI p) nb := by
  have ht := hT.1
  intro g
  induction g with
  | zero => intro p i fuel read reader lead nb h1 h2; omega
  | succ g ih =>
    intro p i fuel read reader lead nb h1 h2 h3 h4 hno hok
    obtain ⟨z, rfl⟩ : ∃ z, fuel = z + 1 := ⟨fuel - 1, by omega⟩
    rw [lp_X7_hasForm_13, nI_1 i]
    refine br_f (nI_ge (b := 64) (by omega) (by omega)) (br_f (by decide) ?_)
    by_cases c : t ≤ p
    · exact br_t (nI_le c (by omega)) ⟨Or.inr rfl, hok p [] (frm_end c) _ _ _ _⟩
    · refine br_f (nI_ge (by omega) (by omega)) (tk_X hN hT (by omega) (fun e hs read reader lead nb => ?_) (fun e k a b cc hs read reader nb _ => ?_))
      · obtain ⟨z, rfl⟩ : ∃ y, z = y + 1 := ⟨z - 1, by omega⟩
        have := hno e (frm_no1 (by omega) hs) read reader lead nb
        rw [lp_X7_hasForm_13]
        exact br_c (fun _ => ⟨Or.inl rfl, this⟩) (fun _ => br_t rfl ⟨Or.inl rfl, this⟩)
      · have hb := stm_bd hs
        exact ih e (i + 1) z read reader _ nb hb.2.1 (by omega) (by omega) (by omega) (fun e' hf => hno e' (frm_no2 (by omega) hs hf)) (fun e' L hf => hok e' _ (frm_ok2 (by omega) hs hf))
theorem form_X {N t : Nat} {s : Nat → Nat} {f nb0 : Nat → Int32} {read0 reader0 lead0 place0 : Int32} {Φ : Int32 → Int32 → Int32 → Int32 → Int32 → (Nat → Int32) → Prop} (hN : 100 < N) (hT : TP s t f) (hno : ∀ e, tpf s t = (e, none) → ∀ read reader lead nb, Φ 0 read reader lead (nI e) nb) (hok : ∀ e L, tpf s t = (e, some L) → ∀ read reader lead nb, Φ 1 read reader lead (nI e) nb) : wp_X7_hasForm N read0 reader0 lead0 place0 nb0 (nI t) f Φ := by
  have ht := hT.1
  unfold wp_X7_hasForm
  refine tk_X (p := 0) hN hT (by omega) (fun e hs read reader lead nb => ?_) (fun e k a b cc hs read reader nb _ => ?_)
  · obtain ⟨z, rfl⟩ : ∃ z, N = z + 1 := ⟨N - 1, by omega⟩
    have h : tpf s t = (e, none) := by
      unfold tpf
      by_cases c : t = 0
      · subst c
        rw [stm_0] at hs
        cases hs
        rfl
      · rw [if_neg c]; exact frm_no1 (by omega) hs
    rw [lp_X7_hasForm_13]
    exact br_f (by decide) (br_t rfl ⟨Or.inl rfl, hno e h read reader lead nb⟩)
  · have hb := stm_bd hs
    have h0 : ∀ o, frm s t 67 0 = o → tpf s t = o := fun o h => by unfold tpf; rw [if_neg (by omega)]; exact h
    exact hf_X hN hT 66 e 0 N read reader _ nb hb.2.1 (by omega) (by omega) (by omega) (fun e' hf => hno e' (h0 _ (frm_no2 (by omega) hs hf))) (fun e' L hf => hok e' _ (h0 _ (frm_ok2 (by omega) hs hf)))
theorem rd1_M {N t : Nat} {s : Nat → Nat} {f sorts readers : Nat → Int32} {Φ : Int32 → Int32 → Int32 → Int32 → Int32 → Int32 → (Nat → Int32) → (Nat → Int32) → (Nat → Int32) → (Nat → Int32) → (Nat → Int32) → (Nat → Int32) → (Nat → Int32) → (Nat → Int32) → Prop} {k : Int32 → Int32 → Int32 → Int32 → (Nat → Int32) → Prop} (hN : 100 < N) (hT : TP s t f) (hH : HK sorts readers) :
    ∀ (g p n fuel : Nat) (sort : Int32) (fd : Nat → Int32), p < t → t - p < g → t - p < fuel → (∀ e, frm s t g p = (e, none) → ∀ n sort fd, k n (nI e) 0 sort fd) → (∀ e L, frm s t g p = (e, some L) → ∀ sort fd, k (nI (n + L.length)) (nI e) 1 sort fd) → lp_X12_read_12 N (nI t) f sorts readers Φ k fuel (nI n) (nI p) 1 sort fd := by
  have ht := hT.1
  intro g
  induction g with
  | zero => intro p n fuel sort fd h1 h2; omega
  | succ g ih =>
    intro p n fuel sort fd h1 h2 h3 hno hok
    obtain ⟨z, rfl⟩ : ∃ z, fuel = z + 1 := ⟨fuel - 1, by omega⟩
    rw [lp_X12_read_12, nI_1 n]
    refine stt_M hN hT (by omega) hH (fun e hs sort fd => ?_) (fun e kk a b cc hs fd _ _ _ => ?_)
    · exact br_t rfl (hno e (frm_no1 h1 hs) _ _ _)
    · have hb := stm_bd hs
      refine br_f (by decide) ?_
      by_cases c : e < t
      · refine br_t (nI_lt c (by omega)) (ih e (n + 1) z _ fd c (by omega) (by omega) (fun e' hf => hno e' (frm_no2 h1 hs hf)) (fun e' L hf sort fd => ?_))
        have := hok e' _ (frm_ok2 h1 hs hf) sort fd
        rw [List.length_cons, show n + (L.length + 1) = n + 1 + L.length by omega] at this
        exact this
      · obtain ⟨g, rfl⟩ : ∃ y, g = y + 1 := ⟨g - 1, by omega⟩
        exact br_f (nI_nlt (by omega) (by omega)) (hok e _ (frm_ok2 h1 hs (frm_end (by omega))) _ fd)
/-! what STATEMENTS add -/
def okA (w r k a b c : Nat) : Bool := if k = 0 then decide (a ≤ 15) && decide (w < 6) else if k = 5 then decide (b ≤ 7) && (decide (c ≤ 16) && decide (r < 6)) else if k = 6 then decide (a < w) else decide (w < 6)
def pu (X : Nat → Nat → Nat) (i j v : Nat) : Nat → Nat → Nat := va_up X i (va_up (X i) j v)
def app (X : Nat → Nat → Nat) (k a b c : Nat) : Nat → Nat → Nat := if k = 5 then pu (pu (pu (pu X 4 (X 7 1) a) 5 (X 7 1) b) 6 (X 7 1) c) 7 1 (X 7 1 + 1) else if k = 6 then pu X 3 a b else pu (pu (pu (pu (pu X 0 (X 7 0) k) 1 (X 7 0) a) 2 (X 7 0) b) 3 (X 7 0) 0) 7 0 (X 7 0 + 1)
def run2 : List ST → (Nat → Nat → Nat) → Nat × Option (Nat → Nat → Nat)
  | [], X => (0, some X)
  | y :: L, X => if okA (X 7 0) (X 7 1) y.2.1 y.2.2.1 y.2.2.2.1 y.2.2.2.2 = true then run2 L (app X y.2.1 y.2.2.1 y.2.2.2.1 y.2.2.2.2) else (y.1, none)
def TGX (X : Nat → Nat → Nat) (k s g t a b c : Nat → Int32) : Prop := TG (X 7 0) (X 7 1) (X 0) (X 1) (X 2) (X 3) (X 4) (X 5) (X 6) k s g t a b c
theorem app_mono {X : Nat → Nat → Nat} {k a b c : Nat} : X 7 0 ≤ app X k a b c 7 0 := by
  unfold app
  split
  · exact Nat.le_refl _
  · split
    · exact Nat.le_refl _
    · exact Nat.le_succ _
theorem run2_mono : ∀ (L : List ST) (X X' : Nat → Nat → Nat) (z : Nat), run2 L X = (z, some X') → X 7 0 ≤ X' 7 0 := by
  intro L
  induction L with
  | nil => intro X X' z h; cases h; exact Nat.le_refl _
  | cons y L ih =>
    intro X X' z h
    rw [run2] at h
    split at h
    · exact Nat.le_trans app_mono (ih _ _ _ h)
    · cases h
theorem TG_word {w r kk aa bb : Nat} {kd se gw st rk re rw : Nat → Nat} {k s g t a b c : Nat → Int32} (h : TG w r kd se gw st rk re rw k s g t a b c) (hw : w < 6) (h1 : kk ≤ 4) (h2 : kk = 0 → aa < 16) (h3 : bb ≤ 9) : TG (w + 1) r (va_up kd w kk) (va_up se w aa) (va_up gw w bb) (va_up st w 0) rk re rw (upd k w (nI kk)) (upd s w (nI aa)) (upd g w (nI bb)) (upd t w 0) a b c := by
  obtain ⟨⟨p1, p2, p3⟩, p4, p5⟩ := h
  refine ⟨⟨by omega, fun i hi => ?_, fun i hi => ?_⟩, p4, fun i hi => ?_⟩
  · by_cases e : i = w
    · subst e; rw [pk_us, vu_s]; exact ⟨rfl, h1⟩
    · rw [pk_un e, vu_n e]; exact p2 i (by omega)
  · by_cases e : i = w
    · subst e; rw [pk_us, vu_s, vu_s]; exact ⟨rfl, h2⟩
    · rw [pk_un e, vu_n e, vu_n e]; exact p3 i (by omega)
  · by_cases e : i = w
    · subst e; rw [pk_us, pk_us, vu_s, vu_s]; exact ⟨rfl, h3, rfl, by omega⟩
    · rw [pk_un e, pk_un e, vu_n e, vu_n e]; exact p5 i (by omega)
theorem TG_road {w r aa bb cc : Nat} {kd se gw st rk re rw : Nat → Nat} {k s g t a b c : Nat → Int32} (h : TG w r kd se gw st rk re rw k s g t a b c) (hr : r < 6) (h1 : aa ≤ 4) (h2 : bb ≤ 7) (h3 : cc ≤ 16) : TG w (r + 1) kd se gw st (va_up rk r aa) (va_up re r bb) (va_up rw r cc) k s g t (upd a r (nI aa)) (upd b r (nI bb)) (upd c r (nI cc)) := by
  obtain ⟨p0, ⟨p1, p2⟩, p3⟩ := h
  refine ⟨p0, ⟨by omega, fun i hi => ?_⟩, p3⟩
  by_cases e : i = r
  · subst e; rw [pk_us, pk_us, pk_us, vu_s, vu_s, vu_s]; exact ⟨rfl, rfl, rfl, h1, h2, h3⟩
  · rw [pk_un e, pk_un e, pk_un e, vu_n e, vu_n e, vu_n e]; exact p2 i (by omega)
theorem TG_stock {w r v bb : Nat} {kd se gw st rk re rw : Nat → Nat} {k s g t a b c : Nat → Int32} (h : TG w r kd se gw st rk re rw k s g t a b c) (h1 : bb ≤ 9) : TG w r kd se gw (va_up st v bb) rk re rw k s g (upd t v (nI bb)) a b c := by
  obtain ⟨p0, p1, p3⟩ := h
  refine ⟨p0, p1, fun i hi => ?_⟩
  by_cases e : i = v
  · subst e; rw [pk_us, vu_s]; exact ⟨(p3 i hi).1, (p3 i hi).2.1, rfl, h1⟩
  · rw [pk_un e, vu_n e]; exact p3 i hi
def BD (k a b c : Nat) : Prop := k ≤ 6 ∧ b ≤ 9 ∧ (k = 0 → a ≤ 99) ∧ (k ≠ 0 → k < 5 → a = 16) ∧ (k = 5 → a ≤ 4 ∧ c ≤ 99) ∧ (k = 6 → a ≤ 9)
theorem c0' : Int32.toNatClampNeg 0 = 0 := by decide
theorem c1' : Int32.toNatClampNeg 1 = 1 := by decide
theorem c2' : Int32.toNatClampNeg 2 = 2 := by decide
/-- addWord of the class -/
theorem aw_X {N w kk aa bb : Nat} {x2 : Int32} {k s g t : Nat → Int32} {Φ : Int32 → Int32 → (Nat → Int32) → (Nat → Int32) → (Nat → Int32) → (Nat → Int32) → Prop} (hw : w ≤ 6) (hk : kk ≤ 4) (hx : (kk = 0 ∧ x2 = nI aa ∧ aa < 100) ∨ (kk ≠ 0 ∧ aa = 16))
    (no : ¬ (w < 6 ∧ (kk = 0 → aa < 16)) → Φ 0 (nI w) k s g t) (yes : w < 6 → (kk = 0 → aa < 16) → Φ 1 (nI (w + 1)) (upd k w (nI kk)) (upd s w (nI aa)) (upd g w (nI bb)) (upd t w 0)) : wp_X8_addWord N (nI kk) x2 (nI bb) (nI w) k s g t Φ := by
  unfold wp_X8_addWord
  rw [nI_1 w, nI_clamp (show w < 2 ^ 31 by omega)]
  rcases Nat.lt_or_ge w 6 with h6 | h6
  · have v6 : vp_in (nI w) 6 := in_nI h6 (by omega)
    refine br_f (nI_ge (b := 6) h6 (by omega)) ?_
    rcases hx with ⟨rfl, rfl, ha⟩ | ⟨h0, rfl⟩
    · refine br_t rfl (br_c (fun c => ⟨v6, br_t rfl ⟨v6, v6, v6, yes h6 (fun _ => ?_)⟩⟩) (fun c => no (fun y => c ?_)))
      · exact (nI_ltI (b := 16) (by omega) (by omega)).mp c
      · exact nI_lt (b := 16) (y.2 rfl) (by omega)
    · have e0 : ¬ nI kk = 0 := nI_ne0 (by omega) (by omega)
      exact br_f e0 ⟨v6, br_f e0 ⟨v6, v6, v6, yes h6 (fun y => absurd y h0)⟩⟩
  · exact br_t (nI_le (a := 6) h6 (by omega)) (no (fun y => by omega))
theorem okA_w {w r k a b c : Nat} (h5 : k ≠ 5) (h6 : k ≠ 6) : okA w r k a b c = true ↔ w < 6 ∧ (k = 0 → a < 16) := by
  unfold okA
  by_cases h0 : k = 0
  · rw [if_pos h0, Bool.and_eq_true, decide_eq_true_iff, decide_eq_true_iff]
    constructor
    · rintro ⟨x, y⟩; exact ⟨y, fun _ => by omega⟩
    · rintro ⟨x, y⟩; have := y h0; exact ⟨by omega, x⟩
  · rw [if_neg h0, if_neg h5, if_neg h6, decide_eq_true_iff]
    exact ⟨fun x => ⟨x, fun y => absurd y h0⟩, fun x => x.1⟩
theorem okA_5 {w r a b c : Nat} : okA w r 5 a b c = true ↔ b ≤ 7 ∧ c ≤ 16 ∧ r < 6 := by
  unfold okA
  rw [if_neg (by omega), if_pos rfl, Bool.and_eq_true, Bool.and_eq_true, decide_eq_true_iff, decide_eq_true_iff, decide_eq_true_iff]
theorem okA_6 {w r a b c : Nat} : okA w r 6 a b c = true ↔ a < w := by
  unfold okA
  rw [if_neg (by omega), if_neg (by omega), if_pos rfl, decide_eq_true_iff]
theorem b_no {b : Bool} (h : ¬ b = true) : b = false := by cases b; rfl; exact absurd rfl h
/-- a STATEMENT added to the class's draft -/
theorem ad_X {N k a b c : Nat} {X : Nat → Nat → Nat} {reader : Int32} {nb d1 d2 d3 d4 d5 d6 d7 : Nat → Int32} {Φ : Int32 → Int32 → Int32 → (Nat → Int32) → (Nat → Int32) → (Nat → Int32) → (Nat → Int32) → (Nat → Int32) → (Nat → Int32) → (Nat → Int32) → Prop} (hN : 100 < N) (hb : BD k a b c) (hT : TGX X d1 d2 d3 d4 d5 d6 d7) (hO : OKX k a b c reader nb)
    (no : okA (X 7 0) (X 7 1) k a b c = false → Φ 0 (nI (X 7 0)) (nI (X 7 1)) d1 d2 d3 d4 d5 d6 d7)
    (yes : okA (X 7 0) (X 7 1) k a b c = true → ∀ e1 e2 e3 e4 e5 e6 e7, TGX (app X k a b c) e1 e2 e3 e4 e5 e6 e7 → Φ 1 (nI (app X k a b c 7 0)) (nI (app X k a b c 7 1)) e1 e2 e3 e4 e5 e6 e7) :
    wp_X7_addStatement N reader (nI (lb k)) (nI (X 7 0)) (nI (X 7 1)) d1 d2 d3 d4 d5 d6 d7 nb Φ := by
  obtain ⟨hk6, hb9, hb0, hb1, hb5, hb6⟩ := hb
  obtain ⟨o0, o5, o6, o1⟩ := hO
  have hw := hT.1.1
  have hr := hT.2.1.1
  unfold wp_X7_addStatement
  rw [c0', c1']
  have word : k ≠ 5 → k ≠ 6 → (k = 0 → a < 16) → X 7 0 < 6 → Φ 1 (nI (X 7 0 + 1)) (nI (X 7 1)) (upd d1 (X 7 0) (nI k)) (upd d2 (X 7 0) (nI a)) (upd d3 (X 7 0) (nI b)) (upd d4 (X 7 0) 0) d5 d6 d7 := by
    intro h5 h6 h1 h2
    have hy := yes ((okA_w h5 h6).mpr ⟨h2, h1⟩) (upd d1 (X 7 0) (nI k)) (upd d2 (X 7 0) (nI a)) (upd d3 (X 7 0) (nI b)) (upd d4 (X 7 0) 0) d5 d6 d7
    unfold app at hy
    rw [if_neg h5, if_neg h6] at hy
    exact hy (TG_word hT h2 (by omega) h1 hb9)
  have wordno : k ≠ 5 → k ≠ 6 → ¬ (X 7 0 < 6 ∧ (k = 0 → a < 16)) → Φ 0 (nI (X 7 0)) (nI (X 7 1)) d1 d2 d3 d4 d5 d6 d7 := fun h5 h6 h => no (b_no (fun y => h ((okA_w h5 h6).mp y)))
  by_cases h0 : k = 0
  · subst h0
    obtain ⟨n0, n1⟩ := o0 rfl
    rw [n0, n1]
    refine ⟨fun z => absurd z (by decide), fun z => absurd z (by decide), fun z => absurd z (by decide), fun z => absurd z (by decide), fun _ => ?_, fun _ _ _ _ z => absurd rfl z⟩
    have := hb0 rfl
    exact aw_X (kk := 0) (aa := a) hw (by omega) (Or.inl ⟨rfl, rfl, by omega⟩) (fun h => ⟨Or.inl rfl, wordno (by omega) (by omega) h⟩) (fun h1 h2 => ⟨Or.inr rfl, word (by omega) (by omega) h2 h1⟩)
  by_cases h5 : k = 5
  · subst h5
    obtain ⟨n0, n1, n2⟩ := o5 rfl
    obtain ⟨a4, c99⟩ := hb5 rfl
    rw [n1, n2, n0]
    refine ⟨fun _ => ?_, fun z => absurd z (by decide), fun z => absurd z (by decide), fun z => absurd z (by decide), fun z => absurd z (by decide), fun z => absurd rfl z⟩
    unfold wp_X8_addRoad
    rw [nI_1 (X 7 1), nI_clamp (show X 7 1 < 2 ^ 31 by omega)]
    have noR : ¬ (b ≤ 7 ∧ c ≤ 16 ∧ X 7 1 < 6) → Φ 0 (nI (X 7 0)) (nI (X 7 1)) d1 d2 d3 d4 d5 d6 d7 := fun h => no (b_no (fun y => h (okA_5.mp y)))
    refine br_c (fun z => ⟨Or.inl rfl, noR (fun y => ?_)⟩) (fun z => br_c (fun z2 => ⟨Or.inl rfl, noR (fun y => ?_)⟩) (fun z2 => br_c (fun z3 => ?_) (fun z3 => ⟨Or.inl rfl, noR (fun y => z3 (nI_le (b := 16) y.2.1 (by omega)))⟩)))
    · exact absurd z (nI_ge (b := 6) y.2.2 (by omega))
    · exact absurd z2 (nI_nlt (a := 7) y.1 (by omega))
    · have r6 : X 7 1 < 6 := by
        rcases Nat.lt_or_ge (X 7 1) 6 with y | y
        · exact y
        · exact absurd (nI_le (a := 6) y (by omega)) z
      have b7 : b ≤ 7 := by
        rcases Nat.lt_or_ge 7 b with y | y
        · exact absurd (nI_lt (a := 7) y (by omega)) z2
        · exact y
      have c16 : c ≤ 16 := (nI_leI (b := 16) (by omega) (by omega)).mp z3
      have v6 : vp_in (nI (X 7 1)) 6 := in_nI r6 (by omega)
      refine ⟨v6, v6, v6, Or.inr rfl, ?_⟩
      exact yes (okA_5.mpr ⟨b7, c16, r6⟩) _ _ _ _ _ _ _ (TG_road hT r6 a4 b7 c16)
  by_cases h6 : k = 6
  · subst h6
    obtain ⟨n0, n1⟩ := o6 rfl
    have a9 := hb6 rfl
    rw [n0, n1]
    refine ⟨fun z => absurd z (by decide), fun _ => ?_, fun z => absurd z (by decide), fun z => absurd z (by decide), fun z => absurd z (by decide), fun _ z => absurd rfl z⟩
    unfold wp_X8_stock
    rw [nI_clamp (show a < 2 ^ 31 by omega)]
    rcases Nat.lt_or_ge a (X 7 0) with y | y
    · exact hw_some y (by omega) (br_f (by decide) ⟨in_nI (by omega) (by omega), Or.inr rfl, yes (okA_6.mpr y) _ _ _ _ _ _ _ (TG_stock hT hb9)⟩)
    · exact hw_not y (by omega) (br_t rfl ⟨Or.inl rfl, no (b_no (fun z => by have := okA_6.mp z; omega))⟩)
  have n0 := o1 h0 (by omega)
  have a16 := hb1 h0 (by omega)
  rw [n0]
  have go : ∀ {Ψ : Int32 → Prop}, Ψ (nI k) → lb k < 256 → (match fi lb (lb k) 5 0 with | none => (-1 : Int32) | some j => nI j) = nI k → wp_J0_indexOf_0f7a4 N 6 (((nI (lb k)).toUInt32 % 65536).toInt32) Ψ := @fun Ψ h h1 h2 => io_X hN (Or.inr rfl) h1 (ld_by _ h1) (Eq.mpr (congrArg Ψ h2) h)
  have fin : wp_X8_addWord N (nI k) 16 (nI b) (nI (X 7 0)) d1 d2 d3 d4 (fun r10 o0 o1 o2 o3 o4 => (r10 = 0 ∨ r10 = 1) ∧ Φ r10 o0 (nI (X 7 1)) o1 o2 o3 o4 d5 d6 d7) := aw_X (kk := k) (aa := a) hw (by omega) (Or.inr ⟨h0, a16⟩) (fun h => ⟨Or.inl rfl, wordno h5 h6 h⟩) (fun h1 h2 => ⟨Or.inr rfl, word h5 h6 h2 h1⟩)
  rcases (show k = 1 ∨ k = 2 ∨ k = 3 ∨ k = 4 by omega) with rfl | rfl | rfl | rfl
  · exact ⟨fun z => absurd z (by decide), fun z => absurd z (by decide), fun z => absurd z (by decide), fun z => absurd z (by decide), fun z => absurd z (by decide), fun _ _ _ _ _ => go fin (by decide) rfl⟩
  · exact ⟨fun z => absurd z (by decide), fun z => absurd z (by decide), fun z => absurd z (by decide), fun z => absurd z (by decide), fun z => absurd z (by decide), fun _ _ _ _ _ => go fin (by decide) rfl⟩
  · exact ⟨fun z => absurd z (by decide), fun z => absurd z (by decide), fun z => absurd z (by decide), fun z => absurd z (by decide), fun z => absurd z (by decide), fun _ _ _ _ _ => go fin (by decide) rfl⟩
  · exact ⟨fun z => absurd z (by decide), fun z => absurd z (by decide), fun z => absurd z (by decide), fun z => absurd z (by decide), fun z => absurd z (by decide), fun _ _ _ _ _ => go fin (by decide) rfl⟩
/-- the reference looks whether a STATEMENT is as it must be -/
theorem am_M {N w r k a b c : Nat} {fd : Nat → Int32} {Φ : Int32 → Prop} (hb : BD k a b c) (hw : w ≤ 6) (hr : r ≤ 6) (f0 : fd 0 = nI a) (f1 : fd 1 = nI b) (f2 : k = 5 → fd 2 = nI c) (no : okA w r k a b c = false → Φ 0) (yes : okA w r k a b c = true → Φ 1) : wp_X12_isAsItMustBe N (nI w) (nI r) (nI k) fd Φ := by
  obtain ⟨hk6, hb9, hb0, hb1, hb5, hb6⟩ := hb
  unfold wp_X12_isAsItMustBe
  rw [c0', c1', c2', f0, f1]
  have six : k ≠ 5 → k ≠ 6 → (k = 0 → a < 16) → (6 ≤ nI w → Φ 0) ∧ (¬ 6 ≤ nI w → Φ 1) := fun h5 h6 h => br_c (fun z => no (b_no (fun y => absurd z (nI_ge (b := 6) ((okA_w h5 h6).mp y).1 (by omega))))) (fun z => yes ((okA_w h5 h6).mpr ⟨by
    rcases Nat.lt_or_ge w 6 with y | y
    · exact y
    · exact absurd (nI_le (a := 6) y (by omega)) z, h⟩))
  by_cases h0 : k = 0
  · subst h0
    have := hb0 rfl
    refine ⟨fun _ => br_c (fun z => no (b_no (fun y => ?_))) (fun z => six (by omega) (by omega) (fun _ => ?_)), fun z => absurd z (by decide), fun z => absurd z (by decide), fun z => absurd rfl z⟩
    · have y2 := ((okA_w (by omega) (by omega)).mp y).2 rfl
      exact absurd z (nI_nlt (a := 15) (by omega) (by omega))
    · rcases Nat.lt_or_ge 15 a with y | y
      · exact absurd (nI_lt (a := 15) y (by omega)) z
      · omega
  by_cases h5 : k = 5
  · subst h5
    obtain ⟨a4, c99⟩ := hb5 rfl
    rw [f2 rfl]
    refine ⟨fun z => absurd z (by decide), fun _ => br_c (fun z => no (b_no (fun y => ?_))) (fun z => br_c (fun z2 => no (b_no (fun y => ?_))) (fun z2 => br_c (fun z3 => no (b_no (fun y => ?_))) (fun z3 => yes (okA_5.mpr ⟨?_, ?_, ?_⟩)))), fun z => absurd z (by decide), fun _ z => absurd rfl z⟩
    · exact absurd z (nI_nlt (a := 7) (okA_5.mp y).1 (by omega))
    · exact absurd z2 (nI_nlt (a := 16) (okA_5.mp y).2.1 (by omega))
    · exact absurd z3 (nI_ge (b := 6) (okA_5.mp y).2.2 (by omega))
    · rcases Nat.lt_or_ge 7 b with y | y
      · exact absurd (nI_lt (a := 7) y (by omega)) z
      · exact y
    · rcases Nat.lt_or_ge 16 c with y | y
      · exact absurd (nI_lt (a := 16) y (by omega)) z2
      · exact y
    · rcases Nat.lt_or_ge r 6 with y | y
      · exact y
      · exact absurd (nI_le (a := 6) y (by omega)) z3
  by_cases h6 : k = 6
  · subst h6
    have a9 := hb6 rfl
    refine ⟨fun z => absurd z (by decide), fun z => absurd z (by decide), fun _ => br_c (fun z => no (b_no (fun y => ?_))) (fun z => yes (okA_6.mpr ?_)), fun _ _ z => absurd rfl z⟩
    · exact absurd z (nI_ge (okA_6.mp y) (by omega))
    · rcases Nat.lt_or_ge a w with y | y
      · exact y
      · exact absurd (nI_le y (by omega)) z
  have e0 : ¬ nI k = 0 := fun z => h0 ((nI_eq (b := 0) (by omega) (by omega)).mp z)
  have e5 : ¬ nI k = 5 := fun z => h5 ((nI_eq (b := 5) (by omega) (by omega)).mp z)
  have e6 : ¬ nI k = 6 := fun z => h6 ((nI_eq (b := 6) (by omega) (by omega)).mp z)
  exact ⟨fun z => absurd z e0, fun z => absurd z e5, fun z => absurd z e6, fun _ _ _ => six h5 h6 (fun y => absurd y h0)⟩
/-- a STATEMENT comes in the reference -/
theorem co_M {N k a b c : Nat} {X : Nat → Nat → Nat} {fd d1 d2 d3 d4 d5 d6 d7 : Nat → Int32} {Φ : Int32 → Int32 → (Nat → Int32) → (Nat → Int32) → (Nat → Int32) → (Nat → Int32) → (Nat → Int32) → (Nat → Int32) → (Nat → Int32) → Prop} (hb : BD k a b c) (hT : TGX X d1 d2 d3 d4 d5 d6 d7) (f0 : fd 0 = nI a) (f1 : fd 1 = nI b) (f2 : k = 5 → fd 2 = nI c) (hok : okA (X 7 0) (X 7 1) k a b c = true)
    (yes : ∀ e1 e2 e3 e4 e5 e6 e7, TGX (app X k a b c) e1 e2 e3 e4 e5 e6 e7 → Φ (nI (app X k a b c 7 0)) (nI (app X k a b c 7 1)) e1 e2 e3 e4 e5 e6 e7) :
    wp_X12_come N (nI (X 7 0)) (nI (X 7 1)) (nI k) d1 d2 d3 d4 d5 d6 d7 fd Φ := by
  obtain ⟨hk6, hb9, hb0, hb1, hb5, hb6⟩ := hb
  have hw := hT.1.1
  have hr := hT.2.1.1
  unfold wp_X12_come
  rw [c0', c1', c2', f0, f1, nI_1 (X 7 0), nI_1 (X 7 1), nI_clamp (show X 7 0 < 2 ^ 31 by omega), nI_clamp (show X 7 1 < 2 ^ 31 by omega)]
  by_cases h5 : k = 5
  · subst h5
    obtain ⟨a4, c99⟩ := hb5 rfl
    obtain ⟨b7, c16, r6⟩ := okA_5.mp hok
    have v6 : vp_in (nI (X 7 1)) 6 := in_nI r6 (by omega)
    rw [f2 rfl]
    exact br_t (by decide) (br_t rfl ⟨v6, v6, v6, yes _ _ _ _ _ _ _ (TG_road hT r6 a4 b7 c16)⟩)
  by_cases h6 : k = 6
  · subst h6
    have aw := okA_6.mp hok
    have v6 : vp_in (nI a) 6 := in_nI (by omega) (by omega)
    rw [nI_clamp (show a < 2 ^ 31 by omega)]
    exact br_t (by decide) (br_f (by decide) ⟨v6, yes _ _ _ _ _ _ _ (TG_stock hT hb9)⟩)
  obtain ⟨w6, a16⟩ := (okA_w h5 h6).mp hok
  have v6 : vp_in (nI (X 7 0)) 6 := in_nI w6 (by omega)
  have hy := yes (upd d1 (X 7 0) (nI k)) (upd d2 (X 7 0) (nI a)) (upd d3 (X 7 0) (nI b)) (upd d4 (X 7 0) 0) d5 d6 d7
  unfold app at hy
  rw [if_neg h5, if_neg h6] at hy
  exact br_f (nI_ge (b := 5) (by omega) (by omega)) ⟨v6, v6, v6, v6, hy (TG_word hT w6 (by omega) a16 hb9)⟩
