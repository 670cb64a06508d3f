/-! one STATEMENT in the class and in the reference -/
def fbk (o : Option Nat) : Nat := match o with
  | none => 4
  | some k => if k = 0 then 0 else if k = 5 then 2 else if k = 6 then 3 else 1
theorem fb_no : ∀ c, c < 256 → (c < 97 ∨ 118 < c) → fbk (fi lb c 7 0) = 4 := by decide +kernel
theorem fb_at : fbk (fi lb 97 7 0) = 1 ∧ fbk (fi lb 98 7 0) = 4 ∧ fbk (fi lb 99 7 0) = 4 ∧ fbk (fi lb 100 7 0) = 4 ∧ fbk (fi lb 101 7 0) = 1 ∧ fbk (fi lb 102 7 0) = 4 ∧ fbk (fi lb 103 7 0) = 4 ∧ fbk (fi lb 104 7 0) = 4 ∧ fbk (fi lb 105 7 0) = 4 ∧ fbk (fi lb 106 7 0) = 4 ∧ fbk (fi lb 107 7 0) = 4 ∧ fbk (fi lb 108 7 0) = 4 ∧ fbk (fi lb 109 7 0) = 4 ∧ fbk (fi lb 110 7 0) = 1 ∧ fbk (fi lb 111 7 0) = 1 ∧ fbk (fi lb 112 7 0) = 4 ∧ fbk (fi lb 113 7 0) = 4 ∧ fbk (fi lb 114 7 0) = 2 ∧ fbk (fi lb 115 7 0) = 3 ∧ fbk (fi lb 116 7 0) = 4 ∧ fbk (fi lb 117 7 0) = 4 ∧ fbk (fi lb 118 7 0) = 0 := by decide +kernel
theorem fb_X {N t p : Nat} {s : Nat → Nat} {f : Nat → Int32} {Φ : Nat → Prop} (hT : TP s t f) (h : Φ (fbk (ldK s t p))) : wp_X7_formBehind N (sgv s t p) Φ := by
  unfold ldK at h
  unfold sgv
  by_cases d : p < t
  · rw [if_pos d] at h ⊢
    have hs := (hT.2 p d).2
    generalize s p = c at h hs
    obtain ⟨x97, x98, x99, x100, x101, x102, x103, x104, x105, x106, x107, x108, x109, x110, x111, x112, x113, x114, x115, x116, x117, x118⟩ := fb_at
    refine ⟨fun z => ?_, fun z => ?_, fun z => ?_, fun z => ?_, fun z => ?_, fun z => ?_, fun z => ?_, fun z => ?_, fun z => ?_, fun z => ?_, fun z => ?_, fun z => ?_, fun z => ?_, fun z => ?_, fun z => ?_, fun z => ?_, fun z => ?_, fun z => ?_, fun z => ?_, fun z => ?_, fun z => ?_, fun z => ?_, fun z97 z98 z99 z100 z101 z102 z103 z104 z105 z106 z107 z108 z109 z110 z111 z112 z113 z114 z115 z116 z117 z118 => ?_⟩
    · rw [(nI_eq (b := 97) (by omega) (by omega)).mp z, x97] at h; exact h
    · rw [(nI_eq (b := 98) (by omega) (by omega)).mp z, x98] at h; exact h
    · rw [(nI_eq (b := 99) (by omega) (by omega)).mp z, x99] at h; exact h
    · rw [(nI_eq (b := 100) (by omega) (by omega)).mp z, x100] at h; exact h
    · rw [(nI_eq (b := 101) (by omega) (by omega)).mp z, x101] at h; exact h
    · rw [(nI_eq (b := 102) (by omega) (by omega)).mp z, x102] at h; exact h
    · rw [(nI_eq (b := 103) (by omega) (by omega)).mp z, x103] at h; exact h
    · rw [(nI_eq (b := 104) (by omega) (by omega)).mp z, x104] at h; exact h
    · rw [(nI_eq (b := 105) (by omega) (by omega)).mp z, x105] at h; exact h
    · rw [(nI_eq (b := 106) (by omega) (by omega)).mp z, x106] at h; exact h
    · rw [(nI_eq (b := 107) (by omega) (by omega)).mp z, x107] at h; exact h
    · rw [(nI_eq (b := 108) (by omega) (by omega)).mp z, x108] at h; exact h
    · rw [(nI_eq (b := 109) (by omega) (by omega)).mp z, x109] at h; exact h
    · rw [(nI_eq (b := 110) (by omega) (by omega)).mp z, x110] at h; exact h
    · rw [(nI_eq (b := 111) (by omega) (by omega)).mp z, x111] at h; exact h
    · rw [(nI_eq (b := 112) (by omega) (by omega)).mp z, x112] at h; exact h
    · rw [(nI_eq (b := 113) (by omega) (by omega)).mp z, x113] at h; exact h
    · rw [(nI_eq (b := 114) (by omega) (by omega)).mp z, x114] at h; exact h
    · rw [(nI_eq (b := 115) (by omega) (by omega)).mp z, x115] at h; exact h
    · rw [(nI_eq (b := 116) (by omega) (by omega)).mp z, x116] at h; exact h
    · rw [(nI_eq (b := 117) (by omega) (by omega)).mp z, x117] at h; exact h
    · rw [(nI_eq (b := 118) (by omega) (by omega)).mp z, x118] at h; exact h
    · rw [fb_no c hs ?_] at h
      · exact h
      have y97 : c ≠ 97 := fun y => z97 (by rw [y]; rfl)
      have y98 : c ≠ 98 := fun y => z98 (by rw [y]; rfl)
      have y99 : c ≠ 99 := fun y => z99 (by rw [y]; rfl)
      have y100 : c ≠ 100 := fun y => z100 (by rw [y]; rfl)
      have y101 : c ≠ 101 := fun y => z101 (by rw [y]; rfl)
      have y102 : c ≠ 102 := fun y => z102 (by rw [y]; rfl)
      have y103 : c ≠ 103 := fun y => z103 (by rw [y]; rfl)
      have y104 : c ≠ 104 := fun y => z104 (by rw [y]; rfl)
      have y105 : c ≠ 105 := fun y => z105 (by rw [y]; rfl)
      have y106 : c ≠ 106 := fun y => z106 (by rw [y]; rfl)
      have y107 : c ≠ 107 := fun y => z107 (by rw [y]; rfl)
      have y108 : c ≠ 108 := fun y => z108 (by rw [y]; rfl)
      have y109 : c ≠ 109 := fun y => z109 (by rw [y]; rfl)
      have y110 : c ≠ 110 := fun y => z110 (by rw [y]; rfl)
      have y111 : c ≠ 111 := fun y => z111 (by rw [y]; rfl)
      have y112 : c ≠ 112 := fun y => z112 (by rw [y]; rfl)
      have y113 : c ≠ 113 := fun y => z113 (by rw [y]; rfl)
      have y114 : c ≠ 114 := fun y => z114 (by rw [y]; rfl)
      have y115 : c ≠ 115 := fun y => z115 (by rw [y]; rfl)
      have y116 : c ≠ 116 := fun y => z116 (by rw [y]; rfl)
      have y117 : c ≠ 117 := fun y => z117 (by rw [y]; rfl)
      have y118 : c ≠ 118 := fun y => z118 (by rw [y]; rfl)
      omega
  · rw [if_neg d] at h ⊢
    exact ⟨fun z => absurd z (by decide), fun z => absurd z (by decide), fun z => absurd z (by decide), fun z => absurd z (by decide), fun z => absurd z (by decide), fun z => absurd z (by decide), fun z => absurd z (by decide), fun z => absurd z (by decide), fun z => absurd z (by decide), fun z => absurd z (by decide), fun z => absurd z (by decide), fun z => absurd z (by decide), fun z => absurd z (by decide), fun z => absurd z (by decide), fun z => absurd z (by decide), fun z => absurd z (by decide), fun z => absurd z (by decide), fun z => absurd z (by decide), fun z => absurd z (by decide), fun z => absurd z (by decide), fun z => absurd z (by decide), fun z => absurd z (by decide), fun _ _ _ _ _ _ _ _ _ _ _ _ _ _ _ _ _ _ _ _ _ _ => h⟩
def OKX (k a b c : Nat) (reader : Int32) (nb : Nat → Int32) : Prop := (k = 0 → nb 0 = nI a ∧ nb 1 = nI b) ∧ (k = 5 → reader = nI a ∧ nb 0 = nI b ∧ nb 1 = nI c) ∧ (k = 6 → nb 0 = nI a ∧ nb 1 = nI b) ∧ (k ≠ 0 → k < 5 → nb 0 = nI b)
theorem len_sh : ∀ n, n < 6 → Int32.ofNat n >>> (0 &&& 31) = nI n := by decide +kernel
theorem ts_step {N i j c z : Nat} {t : Int32} {f nb : Nat → Int32} {lead read reader place : Int32} {Φ : Int32 → Int32 → Int32 → Int32 → Int32 → (Nat → Int32) → Prop} (hi : i < 7 ∧ lenJ.getD i 0 ≤ 5) (hk : j < lenJ.getD i 0) (hb : (bytJ.getD i []).getD j 0 = nI c) (hc : c < 128)
    (h : wp_X7_takePart N (nI c) read reader place nb t f (fun r4 o0 o1 o2 o3 => (r4 = 0 → Φ 0 o0 o1 lead o2 o3) ∧ (¬ r4 = 0 → lp_X7_takeStatement_46 N i lead t f Φ z (nI (j + 1)) o0 o1 o2 o3))) : lp_X7_takeStatement_46 N i lead t f Φ (z + 1) (nI j) read reader place nb := by
  obtain ⟨h7, h5⟩ := hi
  rw [lp_X7_takeStatement_46]
  unfold wp_J0_length_8abf5
  rw [len_sh _ (by omega)]
  refine ⟨h7, br_f (nI_ge hk (by omega)) ⟨h7, ch_ok hk h5 hb hc ?_⟩⟩
  rw [nI_1 j]
  exact h
theorem ts_end {N i j z : Nat} {t : Int32} {f nb : Nat → Int32} {lead read reader place : Int32} {Φ : Int32 → Int32 → Int32 → Int32 → Int32 → (Nat → Int32) → Prop} (hi : i < 7 ∧ lenJ.getD i 0 ≤ 5) (hk : lenJ.getD i 0 ≤ j) (hj : j < 10) (h : Φ 1 read reader lead place nb) : lp_X7_takeStatement_46 N i lead t f Φ (z + 1) (nI j) read reader place nb := by
  obtain ⟨h7, h5⟩ := hi
  rw [lp_X7_takeStatement_46]
  unfold wp_J0_length_8abf5
  rw [len_sh _ (by omega)]
  exact ⟨h7, br_t (nI_le hk (by omega)) h⟩
theorem fd2 {F : Nat → Int32} {x y : Int32} : (upd (upd F (Int32.toNatClampNeg 0) x) (Int32.toNatClampNeg 1) y) 0 = x ∧ (upd (upd F (Int32.toNatClampNeg 0) x) (Int32.toNatClampNeg 1) y) 1 = y := by
  rw [show Int32.toNatClampNeg 0 = 0 by decide, show Int32.toNatClampNeg 1 = 1 by decide]
  exact ⟨by rw [pk_un (by omega), pk_us], by rw [pk_us]⟩
theorem fd3 {F : Nat → Int32} {x y z : Int32} : (upd (upd (upd F (Int32.toNatClampNeg 0) x) (Int32.toNatClampNeg 1) y) (Int32.toNatClampNeg 2) z) 0 = x ∧ (upd (upd (upd F (Int32.toNatClampNeg 0) x) (Int32.toNatClampNeg 1) y) (Int32.toNatClampNeg 2) z) 1 = y ∧ (upd (upd (upd F (Int32.toNatClampNeg 0) x) (Int32.toNatClampNeg 1) y) (Int32.toNatClampNeg 2) z) 2 = z := by
  rw [show Int32.toNatClampNeg 0 = 0 by decide, show Int32.toNatClampNeg 1 = 1 by decide, show Int32.toNatClampNeg 2 = 2 by decide]
  exact ⟨by rw [pk_un (by omega), pk_un (by omega), pk_us], by rw [pk_un (by omega), pk_us], by rw [pk_us]⟩
set_option maxHeartbeats 4000000 in
theorem tk_X {N t p : Nat} {s : Nat → Nat} {f nb0 : Nat → Int32} {read0 reader0 lead0 : Int32} {Φ : Int32 → Int32 → Int32 → Int32 → Int32 → (Nat → Int32) → Prop} (hN : 100 < N) (hT : TP s t f) (hp : p ≤ 64) (no : ∀ e, stm s t p = (e, none) → ∀ read reader lead nb, Φ 0 read reader lead (nI e) nb) (yes : ∀ e k a b c, stm s t p = (e, some (k, a, b, c)) → ∀ read reader nb, OKX k a b c reader nb → Φ 1 read reader (nI (lb k)) (nI e) nb) : wp_X7_takeStatement N read0 reader0 lead0 (nI p) nb0 (nI t) f Φ := by
  have ht := hT.1
  unfold wp_X7_takeStatement
  refine sg_X hT (by omega) (fb_X hT ?_)
  cases hl : ldK s t p with
  | none => exact ⟨by decide, br_t rfl (br_f (by decide) (no p (by simp [stm, hl]) _ _ _ _))⟩
  | some k =>
    obtain ⟨y1, y2, y3⟩ := ldK_bd hl
    have hs : sgv s t p = nI (lb k) := by unfold sgv; rw [if_pos y1, y3]
    rw [hs, nI_1 p]
    obtain ⟨z, rfl⟩ : ∃ z, N = z + 7 := ⟨N - 7, by omega⟩
    by_cases hk0 : k = 0
    · subst hk0
      refine ⟨by decide, br_f (by decide) (br_t rfl ?_)⟩
      refine ts_step (i := 0) (j := 0) (z := z + 6) (c := 35) (by decide) (by decide) rfl (by decide) (tp2_X hT (rd := 0) (by omega) (by omega) (fun e1 => br_t rfl (no _ (by simp [stm, hl, thN, thL, thR, e1]) _ _ _ _)) (fun a p1 e1 => br_f (by decide) ?_))
      have b1 := nm_bd e1
      refine ts_step (i := 0) (j := 1) (z := z + 5) (c := 44) (by decide) (by decide) rfl (by decide) (tpL_X hT (by omega) (by decide) (fun e2 => br_t rfl (no _ (by simp [stm, hl, thN, thL, thR, e1, e2]) _ _ _ _)) (fun e2 => br_f (by decide) ?_))
      have b2 := lit_bd e2
      refine ts_step (i := 0) (j := 2) (z := z + 4) (c := 57) (by decide) (by decide) rfl (by decide) (tp1_X hT (rd := 1) (by omega) (by omega) (fun e3 => br_t rfl (no _ (by simp [stm, hl, thN, thL, thR, e1, e2, e3]) _ _ _ _)) (fun b p3 e3 => br_f (by decide) ?_))
      have b3 := nm_bd e3
      refine ts_step (i := 0) (j := 3) (z := z + 3) (c := 59) (by decide) (by decide) rfl (by decide) (tpL_X hT (by omega) (by decide) (fun e4 => br_t rfl (no _ (by simp [stm, hl, thN, thL, thR, e1, e2, e3, e4]) _ _ _ _)) (fun e4 => br_f (by decide) ?_))
      have b4 := lit_bd e4
      exact ts_end (i := 0) (j := 4) (z := z + 2) (by decide) (by decide) (by omega) (yes _ 0 a b 0 (by simp [stm, hl, thN, thL, thR, e1, e2, e3, e4]) _ _ _ ⟨fun _ => ⟨by rw [pk_un (by omega), pk_us], pk_us⟩, fun z => by omega, fun z => by omega, fun z => by omega⟩)
    by_cases hk5 : k = 5
    · subst hk5
      refine ⟨by decide, br_f (by decide) (br_t rfl ?_)⟩
      refine ts_step (i := 2) (j := 0) (z := z + 6) (c := 107) (by decide) (by decide) rfl (by decide) (tpR_X (by omega) hT (by omega) (fun e1 => br_t rfl (no _ (by simp [stm, hl, thN, thL, thR, e1]) _ _ _ _)) (fun a e1 => br_f (by decide) ?_))
      have b1 := rdK_bd e1
      refine ts_step (i := 2) (j := 1) (z := z + 5) (c := 57) (by decide) (by decide) rfl (by decide) (tp1_X hT (rd := 0) (by omega) (by omega) (fun e2 => br_t rfl (no _ (by simp [stm, hl, thN, thL, thR, e1, e2]) _ _ _ _)) (fun b p2 e2 => br_f (by decide) ?_))
      have b2 := nm_bd e2
      refine ts_step (i := 2) (j := 2) (z := z + 4) (c := 44) (by decide) (by decide) rfl (by decide) (tpL_X hT (by omega) (by decide) (fun e3 => br_t rfl (no _ (by simp [stm, hl, thN, thL, thR, e1, e2, e3]) _ _ _ _)) (fun e3 => br_f (by decide) ?_))
      have b3 := lit_bd e3
      refine ts_step (i := 2) (j := 3) (z := z + 3) (c := 35) (by decide) (by decide) rfl (by decide) (tp2_X hT (rd := 1) (by omega) (by omega) (fun e4 => br_t rfl (no _ (by simp [stm, hl, thN, thL, thR, e1, e2, e3, e4]) _ _ _ _)) (fun c p4 e4 => br_f (by decide) ?_))
      have b4 := nm_bd e4
      refine ts_step (i := 2) (j := 4) (z := z + 2) (c := 59) (by decide) (by decide) rfl (by decide) (tpL_X hT (by omega) (by decide) (fun e5 => br_t rfl (no _ (by simp [stm, hl, thN, thL, thR, e1, e2, e3, e4, e5]) _ _ _ _)) (fun e5 => br_f (by decide) ?_))
      have b5 := lit_bd e5
      exact ts_end (i := 2) (j := 5) (z := z + 1) (by decide) (by decide) (by omega) (yes _ 5 a b c (by simp [stm, hl, thN, thL, thR, e1, e2, e3, e4, e5]) _ _ _ ⟨fun z => by omega, fun _ => ⟨rfl, by rw [pk_un (by omega), pk_us], pk_us⟩, fun z => by omega, fun _ z => by omega⟩)
    by_cases hk6 : k = 6
    · subst hk6
      refine ⟨by decide, br_f (by decide) (br_t rfl ?_)⟩
      refine ts_step (i := 3) (j := 0) (z := z + 6) (c := 57) (by decide) (by decide) rfl (by decide) (tp1_X hT (rd := 0) (by omega) (by omega) (fun e1 => br_t rfl (no _ (by simp [stm, hl, thN, thL, thR, e1]) _ _ _ _)) (fun a p1 e1 => br_f (by decide) ?_))
      have b1 := nm_bd e1
      refine ts_step (i := 3) (j := 1) (z := z + 5) (c := 44) (by decide) (by decide) rfl (by decide) (tpL_X hT (by omega) (by decide) (fun e2 => br_t rfl (no _ (by simp [stm, hl, thN, thL, thR, e1, e2]) _ _ _ _)) (fun e2 => br_f (by decide) ?_))
      have b2 := lit_bd e2
      refine ts_step (i := 3) (j := 2) (z := z + 4) (c := 57) (by decide) (by decide) rfl (by decide) (tp1_X hT (rd := 1) (by omega) (by omega) (fun e3 => br_t rfl (no _ (by simp [stm, hl, thN, thL, thR, e1, e2, e3]) _ _ _ _)) (fun b p3 e3 => br_f (by decide) ?_))
      have b3 := nm_bd e3
      refine ts_step (i := 3) (j := 3) (z := z + 3) (c := 59) (by decide) (by decide) rfl (by decide) (tpL_X hT (by omega) (by decide) (fun e4 => br_t rfl (no _ (by simp [stm, hl, thN, thL, thR, e1, e2, e3, e4]) _ _ _ _)) (fun e4 => br_f (by decide) ?_))
      have b4 := lit_bd e4
      exact ts_end (i := 3) (j := 4) (z := z + 2) (by decide) (by decide) (by omega) (yes _ 6 a b 0 (by simp [stm, hl, thN, thL, thR, e1, e2, e3, e4]) _ _ _ ⟨fun z => by omega, fun z => by omega, fun _ => ⟨by rw [pk_un (by omega), pk_us], pk_us⟩, fun _ z => by omega⟩)
    rw [show fbk (some k) = 1 by simp [fbk, hk0, hk5, hk6]]
    refine ⟨by decide, br_f (by decide) (br_t rfl ?_)⟩
    refine ts_step (i := 1) (j := 0) (z := z + 6) (c := 57) (by decide) (by decide) rfl (by decide) (tp1_X hT (rd := 0) (by omega) (by omega) (fun e1 => br_t rfl (no _ (by simp [stm, hl, thN, thL, thR, hk0, hk5, hk6, e1]) _ _ _ _)) (fun b p1 e1 => br_f (by decide) ?_))
    have b1 := nm_bd e1
    refine ts_step (i := 1) (j := 1) (z := z + 5) (c := 59) (by decide) (by decide) rfl (by decide) (tpL_X hT (by omega) (by decide) (fun e2 => br_t rfl (no _ (by simp [stm, hl, thN, thL, thR, hk0, hk5, hk6, e1, e2]) _ _ _ _)) (fun e2 => br_f (by decide) ?_))
    have b2 := lit_bd e2
    exact ts_end (i := 1) (j := 2) (z := z + 4) (by decide) (by decide) (by omega) (yes _ k 16 b 0 (by simp [stm, hl, thN, thL, thR, hk0, hk5, hk6, e1, e2]) _ _ _ ⟨fun z => absurd z hk0, fun z => absurd z hk5, fun z => absurd z hk6, fun _ _ => pk_us⟩)
set_option maxHeartbeats 4000000 in
theorem stt_M {N t p : Nat} {s : Nat → Nat} {f sorts readers fd0 : Nat → Int32} {sort0 : Int32} {Φ : Int32 → Int32 → Int32 → (Nat → Int32) → Prop} (hN : 100 < N) (hT : TP s t f) (hp : p ≤ 64) (hH : HK sorts readers) (no : ∀ e, stm s t p = (e, none) → ∀ sort fd, Φ (nI e) 0 sort fd) (yes : ∀ e k a b c, stm s t p = (e, some (k, a, b, c)) → ∀ fd, fd 0 = nI a → fd 1 = nI b → (k = 5 → fd 2 = nI c) → Φ (nI e) 1 (nI k) fd) : wp_X12_statement N (nI t) (nI p) 1 sort0 f sorts readers fd0 Φ := by
  have ht := hT.1
  obtain ⟨⟨s0, s1, s2, s3, s4, s5, s6⟩, u0, u1, u2, u3, u4⟩ := hH
  have hS : ∀ j, j < 7 → sorts j = nI (lb j) ∧ lb j < 256 := by
    intro j hj
    rcases (show j = 0 ∨ j = 1 ∨ j = 2 ∨ j = 3 ∨ j = 4 ∨ j = 5 ∨ j = 6 by omega) with rfl | rfl | rfl | rfl | rfl | rfl | rfl
    · exact ⟨s0, by decide⟩
    · exact ⟨s1, by decide⟩
    · exact ⟨s2, by decide⟩
    · exact ⟨s3, by decide⟩
    · exact ⟨s4, by decide⟩
    · exact ⟨s5, by decide⟩
    · exact ⟨s6, by decide⟩
  have hR : ∀ j, j < 5 → readers j = nI (rb j) ∧ rb j < 256 := by
    intro j hj
    rcases (show j = 0 ∨ j = 1 ∨ j = 2 ∨ j = 3 ∨ j = 4 by omega) with rfl | rfl | rfl | rfl | rfl
    · exact ⟨u0, by decide⟩
    · exact ⟨u1, by decide⟩
    · exact ⟨u2, by decide⟩
    · exact ⟨u3, by decide⟩
    · exact ⟨u4, by decide⟩
  unfold wp_X12_statement
  refine oo_M (b := lb) hN hT (by omega) (by omega) hS (fun hno => ?_) (fun k hpt hk => ?_)
  · have hl : ldK s t p = none := by
      unfold ldK
      by_cases d : p < t
      · rw [if_pos d]; exact hno d
      · rw [if_neg d]
    exact br_t rfl (fg0_M hN (ex0_M (fg0_M hN (ex0_M (no p (by simp [stm, hl]) _ _)))))
  · have hl : ldK s t p = some k := by unfold ldK; rw [if_pos hpt]; exact hk
    obtain ⟨y1, y2, y3⟩ := ldK_bd hl
    by_cases hk0 : k = 0
    · subst hk0
      refine br_t rfl ?_
      refine fg2_M hN hT (by omega) (fun e1 => ex0_M (fg0_M hN (ex0_M (no _ (by simp [stm, hl, thN, thL, thR, e1]) _ _)))) (fun a p1 e1 => ?_)
      have b1 := nm_bd e1
      refine ex_M (c := 44) hT (by omega) (by omega) (fun e2 => fg0_M hN (ex0_M (no _ (by simp [stm, hl, thN, thL, thR, e1, e2]) _ _))) (fun e2 => ?_)
      have b2 := lit_bd e2
      refine fg1_M hN hT (by omega) (fun e3 => ex0_M (no _ (by simp [stm, hl, thN, thL, thR, e1, e2, e3]) _ _)) (fun b p3 e3 => ?_)
      have b3 := nm_bd e3
      exact ex_M (c := 59) hT (by omega) (by omega) (fun e4 => no _ (by simp [stm, hl, thN, thL, thR, e1, e2, e3, e4]) _ _) (fun e4 => yes _ 0 a b 0 (by simp [stm, hl, thN, thL, thR, e1, e2, e3, e4]) _ fd2.1 fd2.2 (fun z => by omega))
    by_cases hk5 : k = 5
    · subst hk5
      refine br_f (by decide) (br_t (by decide) (br_t rfl ?_))
      have rdn : (p + 1 < t → fi rb (s (p + 1)) 5 0 = none) → rdK s t (p + 1) = none := fun y => by
        unfold rdK
        by_cases d : p + 1 < t
        · rw [if_pos d]; exact y d
        · rw [if_neg d]
      refine oo_M (b := rb) hN hT (by omega) (by omega) hR (fun e0 => fg0_M hN (ex0_M (fg0_M hN (ex0_M (no _ (by simp [stm, hl, thN, thL, thR, rdn e0]) _ _))))) (fun a hpt1 hk1 => ?_)
      have e1 : rdK s t (p + 1) = some a := by unfold rdK; rw [if_pos hpt1]; exact hk1
      have b1 := rdK_bd e1
      refine fg1_M hN hT (by omega) (fun e2 => ex0_M (fg0_M hN (ex0_M (no _ (by simp [stm, hl, thN, thL, thR, e1, e2]) _ _)))) (fun b p2 e2 => ?_)
      have b2 := nm_bd e2
      refine ex_M (c := 44) hT (by omega) (by omega) (fun e3 => fg0_M hN (ex0_M (no _ (by simp [stm, hl, thN, thL, thR, e1, e2, e3]) _ _))) (fun e3 => ?_)
      have b3 := lit_bd e3
      refine fg2_M hN hT (by omega) (fun e4 => ex0_M (no _ (by simp [stm, hl, thN, thL, thR, e1, e2, e3, e4]) _ _)) (fun c p4 e4 => ?_)
      have b4 := nm_bd e4
      exact ex_M (c := 59) hT (by omega) (by omega) (fun e5 => no _ (by simp [stm, hl, thN, thL, thR, e1, e2, e3, e4, e5]) _ _) (fun e5 => yes _ 5 a b c (by simp [stm, hl, thN, thL, thR, e1, e2, e3, e4, e5]) _ fd3.1 fd3.2.1 (fun _ => fd3.2.2))
    by_cases hk6 : k = 6
    · subst hk6
      refine br_f (by decide) (br_t (by decide) (br_f (by decide) ?_))
      refine fg1_M hN hT (by omega) (fun e1 => ex0_M (fg0_M hN (ex0_M (no _ (by simp [stm, hl, thN, thL, thR, e1]) _ _)))) (fun a p1 e1 => ?_)
      have b1 := nm_bd e1
      refine ex_M (c := 44) hT (by omega) (by omega) (fun e2 => fg0_M hN (ex0_M (no _ (by simp [stm, hl, thN, thL, thR, e1, e2]) _ _))) (fun e2 => ?_)
      have b2 := lit_bd e2
      refine fg1_M hN hT (by omega) (fun e3 => ex0_M (no _ (by simp [stm, hl, thN, thL, thR, e1, e2, e3]) _ _)) (fun b p3 e3 => ?_)
      have b3 := nm_bd e3
      exact ex_M (c := 59) hT (by omega) (by omega) (fun e4 => no _ (by simp [stm, hl, thN, thL, thR, e1, e2, e3, e4]) _ _) (fun e4 => yes _ 6 a b 0 (by simp [stm, hl, thN, thL, thR, e1, e2, e3, e4]) _ fd2.1 fd2.2 (fun z => by omega))
    refine br_f (fun z => hk0 ((nI_eq (b := 0) (by omega) (by omega)).mp z)) (br_f (nI_ge (b := 5) (by omega) (by omega)) ?_)
    refine fg1_M hN hT (by omega) (fun e1 => ex0_M (no _ (by simp [stm, hl, thN, thL, thR, hk0, hk5, hk6, e1]) _ _)) (fun b p1 e1 => ?_)
    have b1 := nm_bd e1
    exact ex_M (c := 59) hT (by omega) (by omega) (fun e2 => no _ (by simp [stm, hl, thN, thL, thR, hk0, hk5, hk6, e1, e2]) _ _) (fun e2 => yes _ k 16 b 0 (by simp [stm, hl, thN, thL, thR, hk0, hk5, hk6, e1, e2]) _ fd2.1 fd2.2 (fun z => absurd z hk5))
