/-! the passes over all STATEMENTS, and tongue -/
theorem bd_of {s : Nat → Nat} {t p e k a b c : Nat} (h : stm s t p = (e, some (k, a, b, c))) : BD k a b c := by
  obtain ⟨_, _, _, _, h1, h2, h3, h4, h5, h6⟩ := stm_bd h
  exact ⟨h1, h2, h3, h4, h5, h6⟩
theorem tk_Y {N t p e k a b c : Nat} {s : Nat → Nat} {f nb0 : Nat → Int32} {read0 reader0 lead0 : Int32} {Φ : Int32 → Int32 → Int32 → Int32 → Int32 → (Nat → Int32) → Prop} (hN : 100 < N) (hT : TP s t f) (hp : p ≤ 64) (hs : stm s t p = (e, some (k, a, b, c))) (yes : ∀ read reader nb, OKX k a b c reader nb → Φ 1 read reader (nI (lb k)) (nI e) nb) : wp_X7_takeStatement N read0 reader0 lead0 (nI p) nb0 (nI t) f Φ := by
  refine tk_X hN hT hp (fun e' h' => ?_) (fun e' k' a' b' c' h' read reader nb hO => ?_)
  · rw [hs] at h'; cases h'
  · have hq := hs.symm.trans h'
    have q1 := Option.some.inj (congrArg Prod.snd hq)
    obtain ⟨rfl, rfl, rfl, rfl, rfl⟩ : e = e' ∧ k = k' ∧ a = a' ∧ b = b' ∧ c = c' := ⟨congrArg Prod.fst hq, congrArg Prod.fst q1, congrArg (fun x => x.2.1) q1, congrArg (fun x => x.2.2.1) q1, congrArg (fun x => x.2.2.2) q1⟩
    exact yes _ _ _ hO
theorem st_Y {N t p e k a b c : Nat} {s : Nat → Nat} {f sorts readers fd0 : Nat → Int32} {sort0 : Int32} {Φ : Int32 → Int32 → Int32 → (Nat → Int32) → Prop} (hN : 100 < N) (hT : TP s t f) (hp : p ≤ 64) (hH : HK sorts readers) (hs : stm s t p = (e, some (k, a, b, c))) (yes : ∀ fd, fd 0 = nI a → fd 1 = nI b → (k = 5 → fd 2 = nI c) → Φ (nI e) 1 (nI k) fd) : wp_X12_statement N (nI t) (nI p) 1 sort0 f sorts readers fd0 Φ := by
  refine stt_M hN hT hp hH (fun e' h' => ?_) (fun e' k' a' b' c' h' fd f0 f1 f2 => ?_)
  · rw [hs] at h'; cases h'
  · have hq := hs.symm.trans h'
    have q1 := Option.some.inj (congrArg Prod.snd hq)
    obtain ⟨rfl, rfl, rfl, rfl, rfl⟩ : e = e' ∧ k = k' ∧ a = a' ∧ b = b' ∧ c = c' := ⟨congrArg Prod.fst hq, congrArg Prod.fst q1, congrArg (fun x => x.2.1) q1, congrArg (fun x => x.2.2.1) q1, congrArg (fun x => x.2.2.2) q1⟩
    exact yes _ f0 f1 f2
theorem run2_yes {y : ST} {L : List ST} {X : Nat → Nat → Nat} {o : Nat × Option (Nat → Nat → Nat)} (h : okA (X 7 0) (X 7 1) y.2.1 y.2.2.1 y.2.2.2.1 y.2.2.2.2 = true) (hr : run2 L (app X y.2.1 y.2.2.1 y.2.2.2.1 y.2.2.2.2) = o) : run2 (y :: L) X = o := by
  rw [run2, if_pos h]; exact hr
theorem run2_no {y : ST} {L : List ST} {X : Nat → Nat → Nat} (h : okA (X 7 0) (X 7 1) y.2.1 y.2.2.1 y.2.2.2.1 y.2.2.2.2 = false) : run2 (y :: L) X = (y.1, none) := by
  rw [run2, if_neg (by rw [h]; simp)]
set_option maxHeartbeats 4000000 in
theorem tl_X {N t : Nat} {s : Nat → Nat} {f p1 p2 p3 p4 p5 p6 p7 : Nat → Int32} {pw pr : Int32} {Φ : Int32 → Int32 → Int32 → Int32 → Int32 → Int32 → Int32 → (Nat → Int32) → (Nat → Int32) → (Nat → Int32) → (Nat → Int32) → (Nat → Int32) → (Nat → Int32) → (Nat → Int32) → (Nat → Int32) → Int32 → Int32 → (Nat → Int32) → (Nat → Int32) → (Nat → Int32) → (Nat → Int32) → (Nat → Int32) → (Nat → Int32) → (Nat → Int32) → Prop} {k83 : Int32 → Int32 → Int32 → Int32 → Int32 → Int32 → Int32 → (Nat → Int32) → (Nat → Int32) → (Nat → Int32) → (Nat → Int32) → (Nat → Int32) → (Nat → Int32) → (Nat → Int32) → (Nat → Int32) → Prop} (hN : 100 < N) (hT : TP s t f) :
    ∀ (L : List ST) (p n fuel : Nat) (X : Nat → Nat → Nat) (read reader lead : Int32) (d1 d2 d3 d4 d5 d6 d7 nb : Nat → Int32), Ch s t L p → p ≤ t → n ≤ p → t - p < fuel → TGX X d1 d2 d3 d4 d5 d6 d7 →
      (∀ b, run2 L X = (b, none) → b ≤ 64 → ∀ read reader lead place dw dr d1 d2 d3 d4 d5 d6 d7 nb, Φ ((-2000) - nI b) read reader lead place dw dr d1 d2 d3 d4 d5 d6 d7 nb pw pr p1 p2 p3 p4 p5 p6 p7) →
      (∀ z X', run2 L X = (z, some X') → ∀ read reader lead place d1 d2 d3 d4 d5 d6 d7 nb, TGX X' d1 d2 d3 d4 d5 d6 d7 → k83 (nI (n + L.length)) read reader lead place (nI (X' 7 0)) (nI (X' 7 1)) d1 d2 d3 d4 d5 d6 d7 nb) →
      lp_X7_tell_32 N (nI t) f pw pr p1 p2 p3 p4 p5 p6 p7 Φ k83 fuel (nI n) read reader lead (nI p) (nI (X 7 0)) (nI (X 7 1)) d1 d2 d3 d4 d5 d6 d7 nb := by
  have ht := hT.1
  intro L
  induction L with
  | nil =>
    intro p n fuel X read reader lead d1 d2 d3 d4 d5 d6 d7 nb hc hp hn hf hX hno hok
    obtain ⟨z, rfl⟩ : ∃ z, fuel = z + 1 := ⟨fuel - 1, by omega⟩
    rw [lp_X7_tell_32]
    exact br_t (nI_le (show t ≤ p from hc) (by omega)) (hok 0 X rfl _ _ _ _ _ _ _ _ _ _ _ _ hX)
  | cons y L ih =>
    intro p n fuel X read reader lead d1 d2 d3 d4 d5 d6 d7 nb hc hp hn hf hX hno hok
    obtain ⟨z, rfl⟩ : ∃ z, fuel = z + 1 := ⟨fuel - 1, by omega⟩
    obtain ⟨h1, h2, e, hs, hc2⟩ := hc
    obtain ⟨b0, k, a, b, c⟩ := y
    have hs : stm s t p = (e, some (k, a, b, c)) := hs
    have h1 : b0 = p := h1
    have hb := stm_bd hs
    rw [lp_X7_tell_32, nI_1 n]
    refine br_f (nI_ge h2 (by omega)) (br_f (nI_ge (b := 64) (by omega) (by omega)) (tk_Y hN hT (by omega) hs (fun read reader nb hO => br_f (by decide) (ad_X hN (bd_of hs) hX hO (fun hk => ?_) (fun hk e1 e2 e3 e4 e5 e6 e7 hX' => ?_)))))
    · have hz := hno b0 (run2_no (y := (b0, k, a, b, c)) hk) (by omega)
      rw [h1] at hz
      exact br_t rfl (hz _ _ _ _ _ _ _ _ _ _ _ _ _ _)
    · refine br_f (by decide) (ih e (n + 1) z (app X k a b c) read reader _ e1 e2 e3 e4 e5 e6 e7 nb hc2 hb.2.1 (by omega) (by omega) hX' (fun b2 hr => hno b2 (run2_yes (y := (b0, k, a, b, c)) hk hr)) (fun z2 X2 hr => ?_))
      have hz := hok z2 X2 (run2_yes (y := (b0, k, a, b, c)) hk hr)
      rw [List.length_cons, show n + (L.length + 1) = n + 1 + L.length by omega] at hz
      exact hz
theorem tell_X {N t : Nat} {s : Nat → Nat} {X : Nat → Nat → Nat} {f nb0 g1 g2 g3 g4 g5 g6 g7 p1 p2 p3 p4 p5 p6 p7 : Nat → Int32} {read0 reader0 lead0 place0 gw0 gr0 : Int32} {Φ : Int32 → Int32 → Int32 → Int32 → Int32 → Int32 → Int32 → (Nat → Int32) → (Nat → Int32) → (Nat → Int32) → (Nat → Int32) → (Nat → Int32) → (Nat → Int32) → (Nat → Int32) → (Nat → Int32) → Int32 → Int32 → (Nat → Int32) → (Nat → Int32) → (Nat → Int32) → (Nat → Int32) → (Nat → Int32) → (Nat → Int32) → (Nat → Int32) → Prop} (hN : 100 < N) (hT : TP s t f) (hX : TGX X p1 p2 p3 p4 p5 p6 p7)
    (hA : ∀ e, tpf s t = (e, none) → ∀ read reader lead place dw dr d1 d2 d3 d4 d5 d6 d7 nb, Φ ((-1000) - nI e) read reader lead place dw dr d1 d2 d3 d4 d5 d6 d7 nb (nI (X 7 0)) (nI (X 7 1)) p1 p2 p3 p4 p5 p6 p7)
    (hB : ∀ e L b, tpf s t = (e, some L) → run2 L X = (b, none) → b ≤ 64 → ∀ read reader lead place dw dr d1 d2 d3 d4 d5 d6 d7 nb, Φ ((-2000) - nI b) read reader lead place dw dr d1 d2 d3 d4 d5 d6 d7 nb (nI (X 7 0)) (nI (X 7 1)) p1 p2 p3 p4 p5 p6 p7)
    (hC : ∀ e L z X', tpf s t = (e, some L) → run2 L X = (z, some X') → ∀ read reader lead place dw dr d1 d2 d3 d4 d5 d6 d7 nb q1 q2 q3 q4 q5 q6 q7, TGX X' q1 q2 q3 q4 q5 q6 q7 → Φ (nI L.length) read reader lead place dw dr d1 d2 d3 d4 d5 d6 d7 nb (nI (X' 7 0)) (nI (X' 7 1)) q1 q2 q3 q4 q5 q6 q7) :
    wp_X7_tell N read0 reader0 lead0 place0 gw0 gr0 g1 g2 g3 g4 g5 g6 g7 nb0 (nI t) f (nI (X 7 0)) (nI (X 7 1)) p1 p2 p3 p4 p5 p6 p7 Φ := by
  have ht := hT.1
  unfold wp_X7_tell
  refine form_X hN hT (fun e he read reader lead nb => br_t rfl (hA e he _ _ _ _ _ _ _ _ _ _ _ _ _ _)) (fun e L he read reader lead nb => br_f (by decide) ?_)
  obtain ⟨hc, hl1, hl2⟩ := tpf_ok he
  unfold wp_X8_copyFrom
  refine tl_X hN hT L 0 0 N X read reader lead _ _ _ _ _ _ _ nb hc (by omega) (by omega) (by omega) (TG_cp hX cp6 cp6 cp6 cp6 cp6 cp6 cp6) (fun b hr hb => hB e L b he hr hb) (fun z X' hr read reader lead place d1 d2 d3 d4 d5 d6 d7 nb hX' => ?_)
  unfold ex_X7_tell_83 wp_X8_copyFrom
  rw [Nat.zero_add]
  exact hC e L z X' he hr _ _ _ _ _ _ _ _ _ _ _ _ _ _ _ _ _ _ _ _ _ (TG_cp hX' cp6 cp6 cp6 cp6 cp6 cp6 cp6)
/-! the reference's second and third pass -/
theorem n5 (k a b c : Nat) (X : Nat → Nat → Nat) : (k = 5 → app X k a b c 7 0 = X 7 0 ∧ app X k a b c 7 1 = X 7 1 + 1) ∧ (k = 6 → app X k a b c 7 0 = X 7 0 ∧ app X k a b c 7 1 = X 7 1) ∧ (k ≠ 5 → k ≠ 6 → app X k a b c 7 0 = X 7 0 + 1 ∧ app X k a b c 7 1 = X 7 1) := by
  refine ⟨fun h => ?_, fun h => ?_, fun h h' => ?_⟩
  · unfold app; rw [if_pos h]; exact ⟨rfl, rfl⟩
  · unfold app; rw [if_neg (by omega), if_pos h]; exact ⟨rfl, rfl⟩
  · unfold app; rw [if_neg h, if_neg h']; exact ⟨rfl, rfl⟩
set_option maxHeartbeats 4000000 in
theorem rd2_M {N t : Nat} {s : Nat → Nat} {f sorts readers k1 k2 k3 k4 k5 k6 k7 : Nat → Int32} {vw vr : Int32} {Φ : Int32 → Int32 → Int32 → Int32 → Int32 → Int32 → (Nat → Int32) → (Nat → Int32) → (Nat → Int32) → (Nat → Int32) → (Nat → Int32) → (Nat → Int32) → (Nat → Int32) → (Nat → Int32) → Prop} {k140 : Int32 → Int32 → Int32 → (Nat → Int32) → Prop} (hN : 100 < N) (hT : TP s t f) (hH : HK sorts readers) :
    ∀ (L : List ST) (p fuel : Nat) (X : Nat → Nat → Nat) (sort : Int32) (fd : Nat → Int32), Ch s t L p → p ≤ t → t - p < fuel → X 7 0 ≤ 6 → X 7 1 ≤ 6 →
      (∀ b, run2 L X = (b, none) → ∀ at_ well sort fd, Φ ((-2000) - nI b) vw vr at_ well sort k1 k2 k3 k4 k5 k6 k7 fd) →
      (∀ z X', run2 L X = (z, some X') → ∀ at_ sort fd, k140 at_ 1 sort fd) →
      lp_X12_read_68 N vw vr (nI t) k1 k2 k3 k4 k5 k6 k7 f sorts readers Φ k140 fuel (nI (X 7 0)) (nI (X 7 1)) (nI p) 1 sort fd := by
  have ht := hT.1
  intro L
  induction L with
  | nil =>
    intro p fuel X sort fd hc hp hf hw hr hno hok
    obtain ⟨z, rfl⟩ : ∃ z, fuel = z + 1 := ⟨fuel - 1, by omega⟩
    rw [lp_X12_read_68]
    exact br_t (nI_le (show t ≤ p from hc) (by omega)) (hok 0 X rfl _ _ _)
  | cons y L ih =>
    intro p fuel X sort fd hc hp hf hw hr hno hok
    obtain ⟨z, rfl⟩ : ∃ z, fuel = z + 1 := ⟨fuel - 1, by omega⟩
    obtain ⟨h1, h2, e, hs, hc2⟩ := hc
    obtain ⟨b0, k, a, b, c⟩ := y
    have hs : stm s t p = (e, some (k, a, b, c)) := hs
    have h1 : b0 = p := h1
    have hb := stm_bd hs
    have hbd := bd_of hs
    rw [lp_X12_read_68]
    refine br_f (nI_ge h2 (by omega)) (st_Y hN hT (by omega) hH hs (fun fd f0 f1 f2 => am_M hbd hw hr f0 f1 f2 (fun hk => ?_) (fun hk => br_f (by decide) ?_)))
    · have hz := hno b0 (run2_no (y := (b0, k, a, b, c)) hk)
      rw [h1] at hz
      exact br_t rfl (hz _ _ _ _)
    · have go : ∀ x y, x = nI (app X k a b c 7 0) → y = nI (app X k a b c 7 1) → app X k a b c 7 0 ≤ 6 → app X k a b c 7 1 ≤ 6 → lp_X12_read_68 N vw vr (nI t) k1 k2 k3 k4 k5 k6 k7 f sorts readers Φ k140 z x y (nI e) 1 (nI k) fd := by
        intro x y hx hy g1 g2
        rw [hx, hy]
        exact ih e z (app X k a b c) (nI k) fd hc2 hb.2.1 (by omega) g1 g2 (fun b2 hr => hno b2 (run2_yes (y := (b0, k, a, b, c)) hk hr)) (fun z2 X2 hr => hok z2 X2 (run2_yes (y := (b0, k, a, b, c)) hk hr))
      obtain ⟨m5, m6, m0⟩ := n5 k a b c X
      have w1 : nI (X 7 0) + 1 = nI (X 7 0 + 1) := nI_1 _
      have w0 : nI (X 7 0) + 0 = nI (X 7 0) := nI_p0 _
      have v1 : nI (X 7 1) + 1 = nI (X 7 1 + 1) := nI_1 _
      have v0 : nI (X 7 1) + 0 = nI (X 7 1) := nI_p0 _
      rw [w1, w0, v1, v0]
      have hk6 := hbd.1
      by_cases h5 : k = 5
      · obtain ⟨i1, i2⟩ := m5 h5
        have ho : okA (X 7 0) (X 7 1) 5 a b c = true := by rw [← h5]; exact hk
        have hz := (okA_5.mp ho).2.2
        exact br_t (nI_le (a := 5) (by omega) (by omega)) (br_t (by rw [h5]; rfl) (go _ _ (by rw [i1]) (by rw [i2]) (by omega) (by omega)))
      have e5 : ¬ nI k = 5 := fun y => h5 ((nI_eq (b := 5) (by omega) (by omega)).mp y)
      by_cases h6 : k = 6
      · obtain ⟨i1, i2⟩ := m6 h6
        exact br_t (nI_le (a := 5) (by omega) (by omega)) (br_f e5 (go _ _ (by rw [i1]) (by rw [i2]) (by omega) (by omega)))
      obtain ⟨i1, i2⟩ := m0 h5 h6
      have hz := ((okA_w h5 h6).mp hk).1
      exact br_f (nI_ge (b := 5) (by omega) (by omega)) (br_f e5 (go _ _ (by rw [i1]) (by rw [i2]) (by omega) (by omega)))
set_option maxHeartbeats 4000000 in
theorem rd3_M {N t : Nat} {s : Nat → Nat} {f sorts readers : Nat → Int32} {x1 : Int32} {Φ : Int32 → Int32 → Int32 → Int32 → Int32 → Int32 → (Nat → Int32) → (Nat → Int32) → (Nat → Int32) → (Nat → Int32) → (Nat → Int32) → (Nat → Int32) → (Nat → Int32) → (Nat → Int32) → Prop} (hN : 100 < N) (hT : TP s t f) (hH : HK sorts readers) :
    ∀ (L : List ST) (p fuel zz : Nat) (X X' : Nat → Nat → Nat) (sort : Int32) (fd k1 k2 k3 k4 k5 k6 k7 : Nat → Int32), Ch s t L p → p ≤ t → t - p < fuel → TGX X k1 k2 k3 k4 k5 k6 k7 → run2 L X = (zz, some X') →
      (∀ at_ well sort fd k1 k2 k3 k4 k5 k6 k7, TGX X' k1 k2 k3 k4 k5 k6 k7 → Φ x1 (nI (X' 7 0)) (nI (X' 7 1)) at_ well sort k1 k2 k3 k4 k5 k6 k7 fd) →
      lp_X12_read_145 N x1 (nI t) f sorts readers Φ fuel (nI (X 7 0)) (nI (X 7 1)) (nI p) 1 sort k1 k2 k3 k4 k5 k6 k7 fd := by
  have ht := hT.1
  intro L
  induction L with
  | nil =>
    intro p fuel zz X X' sort fd k1 k2 k3 k4 k5 k6 k7 hc hp hf hX hr hok
    obtain ⟨z, rfl⟩ : ∃ z, fuel = z + 1 := ⟨fuel - 1, by omega⟩
    have hXX : X = X' := Option.some.inj (congrArg Prod.snd (show ((0 : Nat), some X) = (zz, some X') from hr))
    subst hXX
    rw [lp_X12_read_145]
    exact br_t (nI_le (show t ≤ p from hc) (by omega)) (hok _ _ _ _ _ _ _ _ _ _ _ hX)
  | cons y L ih =>
    intro p fuel zz X X' sort fd k1 k2 k3 k4 k5 k6 k7 hc hp hf hX hr hok
    obtain ⟨z, rfl⟩ : ∃ z, fuel = z + 1 := ⟨fuel - 1, by omega⟩
    obtain ⟨h1, h2, e, hs, hc2⟩ := hc
    obtain ⟨b0, k, a, b, c⟩ := y
    have hs : stm s t p = (e, some (k, a, b, c)) := hs
    have hb := stm_bd hs
    have hbd := bd_of hs
    rw [lp_X12_read_145]
    refine br_f (nI_ge h2 (by omega)) (st_Y hN hT (by omega) hH hs (fun fd f0 f1 f2 => ?_))
    cases hk : okA (X 7 0) (X 7 1) k a b c with
    | false => rw [run2_no (y := (b0, k, a, b, c)) hk] at hr; cases hr
    | true =>
      have hr' : run2 L (app X k a b c) = (zz, some X') := by
        rw [run2, if_pos (show okA (X 7 0) (X 7 1) k a b c = true from hk)] at hr; exact hr
      exact co_M hbd hX f0 f1 f2 hk (fun e1 e2 e3 e4 e5 e6 e7 hX' => ih e z zz (app X k a b c) X' (nI k) fd e1 e2 e3 e4 e5 e6 e7 hc2 hb.2.1 (by omega) hX' hr' hok)
theorem tongue_M {N t : Nat} {s : Nat → Nat} {X : Nat → Nat → Nat} {f sorts readers fd0 k1 k2 k3 k4 k5 k6 k7 : Nat → Int32} {at0 well0 sort0 : Int32} {Φ : Int32 → Int32 → Int32 → Int32 → Int32 → Int32 → Int32 → (Nat → Int32) → (Nat → Int32) → (Nat → Int32) → (Nat → Int32) → (Nat → Int32) → (Nat → Int32) → (Nat → Int32) → (Nat → Int32) → Prop} (hN : 100 < N) (hT : TP s t f) (hH : HK sorts readers) (hX : TGX X k1 k2 k3 k4 k5 k6 k7)
    (hA : ∀ e, tpf s t = (e, none) → ∀ at_ well sort fd, Φ ((-1000) - nI e) (nI (X 7 0)) (nI (X 7 1)) 0 at_ well sort k1 k2 k3 k4 k5 k6 k7 fd)
    (hB : ∀ e L b, tpf s t = (e, some L) → run2 L X = (b, none) → ∀ at_ well sort fd, Φ ((-2000) - nI b) (nI (X 7 0)) (nI (X 7 1)) 0 at_ well sort k1 k2 k3 k4 k5 k6 k7 fd)
    (hC : ∀ e L z X', tpf s t = (e, some L) → run2 L X = (z, some X') → ∀ at_ well sort fd q1 q2 q3 q4 q5 q6 q7, TGX X' q1 q2 q3 q4 q5 q6 q7 → Φ (nI L.length) (nI (X' 7 0)) (nI (X' 7 1)) 0 at_ well sort q1 q2 q3 q4 q5 q6 q7 fd) :
    wp_X12_tongue N (nI (X 7 0)) (nI (X 7 1)) (nI t) at0 well0 sort0 k1 k2 k3 k4 k5 k6 k7 f sorts readers fd0 Φ := by
  have ht := hT.1
  have hw := hX.1.1
  have hr := hX.2.1.1
  unfold wp_X12_tongue wp_X12_read
  have bad : ∀ n e sort fd, tpf s t = (e, none) → ex_X12_read_37 N n (nI (X 7 0)) (nI (X 7 1)) (nI t) (nI e) 0 sort k1 k2 k3 k4 k5 k6 k7 f sorts readers fd (fun r1 o1_0 o1_1 o1_2 o1_3 o1_4 o1_5 o1_6 o1_7 o1_8 o1_9 o1_10 o1_11 o1_12 => Φ r1 o1_0 o1_1 0 o1_2 o1_3 o1_4 o1_5 o1_6 o1_7 o1_8 o1_9 o1_10 o1_11 o1_12) := by
    intro n e sort fd he
    unfold ex_X12_read_37
    exact br_t rfl (hA e he _ _ _ _)
  have good : ∀ e L sort fd, tpf s t = (e, some L) → ex_X12_read_37 N (nI (0 + L.length)) (nI (X 7 0)) (nI (X 7 1)) (nI t) (nI e) 1 sort k1 k2 k3 k4 k5 k6 k7 f sorts readers fd (fun r1 o1_0 o1_1 o1_2 o1_3 o1_4 o1_5 o1_6 o1_7 o1_8 o1_9 o1_10 o1_11 o1_12 => Φ r1 o1_0 o1_1 0 o1_2 o1_3 o1_4 o1_5 o1_6 o1_7 o1_8 o1_9 o1_10 o1_11 o1_12) := by
    intro e L sort fd he
    obtain ⟨hc, hl1, hl2⟩ := tpf_ok he
    unfold ex_X12_read_37
    refine br_f (by decide) (rd2_M hN hT hH L 0 N X sort fd hc (by omega) (by omega) hw hr (fun b hr2 at_ well sort fd => hB e L b he hr2 _ _ _ _) (fun z X' hr2 at_ sort fd => ?_))
    unfold ex_X12_read_140
    refine rd3_M hN hT hH L 0 N z X X' sort fd k1 k2 k3 k4 k5 k6 k7 hc (by omega) (by omega) hX hr2 (fun at_ well sort fd q1 q2 q3 q4 q5 q6 q7 hq => ?_)
    rw [Nat.zero_add]
    exact hC e L z X' he hr2 _ _ _ _ _ _ _ _ _ _ _ hq
  rcases Nat.eq_zero_or_pos t with h0 | h0
  · subst h0
    obtain ⟨z, rfl⟩ : ∃ z, N = z + 1 := ⟨N - 1, by omega⟩
    rw [lp_X12_read_12]
    refine stt_M (p := 0) hN hT (by omega) hH (fun e h sort fd => ?_) (fun e k a b c h fd _ _ _ => ?_)
    · rw [stm_0] at h
      have he : (0 : Nat) = e := congrArg Prod.fst h
      subst he
      exact br_t rfl (bad _ 0 _ _ rfl)
    · rw [stm_0] at h; cases h
  · have h67 : tpf s t = frm s t 67 0 := by unfold tpf; rw [if_neg (by omega)]
    rw [h67] at bad good
    exact rd1_M hN hT hH 67 0 0 N sort0 fd0 h0 (by omega) (by omega) (fun e he n sort fd => bad n e sort fd he) (fun e L he sort fd => good e L sort fd he)
theorem neg1 : ∀ p, p < 65 → ((-1000 : Int32) - nI p) ≤ 0 := by decide +kernel
theorem neg2 : ∀ p, p < 65 → ((-2000 : Int32) - nI p) ≤ 0 := by decide +kernel
theorem RW_mono {w w' n n1 : Nat} {rg : Nat → Option Nat} {f : Nat → Int32} (h : RW w n n1 rg f) (hw : w ≤ w') : RW w' n n1 rg f := ⟨h.1, h.2.1, fun i hi => ⟨(h.2.2 i hi).1, fun v hv => by have := (h.2.2 i hi).2 v hv; omega⟩⟩
theorem PR_mono {w w' q : Nat} {pa pb : Nat → Nat} {f g : Nat → Int32} (h : PR w q pa pb f g) (hw : w ≤ w') : PR w' q pa pb f g := ⟨h.1, fun i hi => by
  obtain ⟨a, b, c, d⟩ := h.2.1 i hi
  exact ⟨a, b, by omega, by omega⟩, h.2.2⟩
def X0 (w r : Nat) (kd se gw st rk re rw : Nat → Nat) : Nat → Nat → Nat := fun i => if i = 0 then kd else if i = 1 then se else if i = 2 then gw else if i = 3 then st else if i = 4 then rk else if i = 5 then re else if i = 6 then rw else fun j => if j = 0 then w else r
set_option maxHeartbeats 8000000 in
theorem op1 {N : Nat} (hN : 8000 < N) : zop1 N Inv := by
  intro vi fa wi ga hI
  obtain ⟨w, r, n, q, kd, se, gw, st, rk, re, rw, rg, pa, pb, t, e2, e3, e4, e5, m0, m1, m2, m3, c1, c7, hT, hT', hR, hR', hP, hP', hB, hC, hD, hE0, hE1, hE2, hE3, hE4, hF, hG, hH⟩ := hI
  have h1 : 100 < N := by omega
  obtain ⟨ht, hl⟩ := id hC
  have hs : ∃ s : Nat → Nat, TP s t (fa 0) ∧ TP s t (ga 12) := by
    refine ⟨fun i => (fa 0 i).toNatClampNeg, ⟨ht, fun i hi => ?_⟩, ⟨ht, fun i hi => ?_⟩⟩
    · obtain ⟨c, g1, g2, g3⟩ := hl i hi
      show fa 0 i = nI (fa 0 i).toNatClampNeg ∧ (fa 0 i).toNatClampNeg < 256
      rw [g2, nI_clamp (show c < 2 ^ 31 by omega)]; exact ⟨rfl, g1⟩
    · obtain ⟨c, g1, g2, g3⟩ := hl i hi
      show ga 12 i = nI (fa 0 i).toNatClampNeg ∧ (fa 0 i).toNatClampNeg < 256
      rw [g3, g2, nI_clamp (show c < 2 ^ 31 by omega)]; exact ⟨rfl, g1⟩
  obtain ⟨s, hs1, hs2⟩ := hs
  have hX : TGX (X0 w r kd se gw st rk re rw) (fa 1) (fa 2) (fa 3) (fa 4) (fa 5) (fa 6) (fa 7) := hT
  have hX' : TGX (X0 w r kd se gw st rk re rw) (ga 1) (ga 2) (ga 3) (ga 4) (ga 5) (ga 6) (ga 7) := hT'
  have z0 : LT 0 (fa 0) (ga 12) := ⟨by omega, fun i hi => by omega⟩
  rw [e2, e3, c1, m0, m1, c7]
  unfold wp_X11_tongue
  refine tell_X (X := X0 w r kd se gw st rk re rw) h1 hs1 hX (fun e he read reader lead place dw dr d1 d2 d3 d4 d5 d6 d7 nb => ?_) (fun e L b he hr hb read reader lead place dw dr d1 d2 d3 d4 d5 d6 d7 nb => ?_) (fun e L z X' he hr read reader lead place dw dr d1 d2 d3 d4 d5 d6 d7 nb q1 q2 q3 q4 q5 q6 q7 hq => ?_)
  · have hle := tpf_le he
    refine br_t (neg1 e (by omega)) ?_
    refine tongue_M (X := X0 w r kd se gw st rk re rw) h1 hs2 hH hX' (fun e' he' at_ well sort fd => ?_) (fun e' L' b' he' => ?_) (fun e' L' z' X2 he' => ?_)
    · rw [he] at he'
      have hee : e = e' := congrArg Prod.fst he'
      subst hee
      exact ⟨rfl, w, r, n, q, kd, se, gw, st, rk, re, rw, rg, pa, pb, 0, (by first | exact e2 | rfl), (by first | exact e3 | rfl), (by first | exact e4 | rfl), (by first | exact e5 | rfl), (by first | exact m0 | rfl), (by first | exact m1 | rfl), (by first | exact m2 | rfl), (by first | exact m3 | rfl), (by first | exact c1 | rfl), (by first | exact c7 | rfl), hT, hT', hR, hR', hP, hP', hB, z0, hD, hE0, hE1, hE2, hE3, hE4, hF, hG, hH⟩
    · rw [he] at he'; cases he'
    · rw [he] at he'; cases he'
  · refine br_t (neg2 b (by omega)) ?_
    refine tongue_M (X := X0 w r kd se gw st rk re rw) h1 hs2 hH hX' (fun e' he' => ?_) (fun e' L' b' he' hr' at_ well sort fd => ?_) (fun e' L' z' X2 he' hr' => ?_)
    · rw [he] at he'; cases he'
    · rw [he] at he'
      have hLL : L = L' := Option.some.inj (congrArg Prod.snd he')
      subst hLL
      rw [hr] at hr'
      have hbb : b = b' := congrArg Prod.fst hr'
      subst hbb
      exact ⟨rfl, w, r, n, q, kd, se, gw, st, rk, re, rw, rg, pa, pb, 0, (by first | exact e2 | rfl), (by first | exact e3 | rfl), (by first | exact e4 | rfl), (by first | exact e5 | rfl), (by first | exact m0 | rfl), (by first | exact m1 | rfl), (by first | exact m2 | rfl), (by first | exact m3 | rfl), (by first | exact c1 | rfl), (by first | exact c7 | rfl), hT, hT', hR, hR', hP, hP', hB, z0, hD, hE0, hE1, hE2, hE3, hE4, hF, hG, hH⟩
    · rw [he] at he'
      have hLL : L = L' := Option.some.inj (congrArg Prod.snd he')
      subst hLL
      rw [hr] at hr'; cases hr'
  · obtain ⟨hc, hl1, hl2⟩ := tpf_ok he
    have hmono : w ≤ X' 7 0 := run2_mono L _ X' z hr
    refine br_f (nI_nle (by omega) (by omega)) ?_
    unfold wp_X11_forgetTongue
    refine tongue_M (X := X0 w r kd se gw st rk re rw) h1 hs2 hH hX' (fun e' he' => ?_) (fun e' L' b' he' hr' => ?_) (fun e' L' z' X2 he' hr' at_ well sort fd u1 u2 u3 u4 u5 u6 u7 hu => ?_)
    · rw [he] at he'; cases he'
    · rw [he] at he'
      have hLL : L = L' := Option.some.inj (congrArg Prod.snd he')
      subst hLL
      rw [hr] at hr'; cases hr'
    · rw [he] at he'
      have hLL : L = L' := Option.some.inj (congrArg Prod.snd he')
      subst hLL
      rw [hr] at hr'
      have hXX : X' = X2 := Option.some.inj (congrArg Prod.snd hr')
      rw [← hXX] at hu ⊢
      exact ⟨rfl, X' 7 0, X' 7 1, n, q, X' 0, X' 1, X' 2, X' 3, X' 4, X' 5, X' 6, rg, pa, pb, 0, (by first | exact e2 | rfl), (by first | exact e3 | rfl), (by first | exact e4 | rfl), (by first | exact e5 | rfl), (by first | exact m0 | rfl), (by first | exact m1 | rfl), (by first | exact m2 | rfl), (by first | exact m3 | rfl), (by first | exact c1 | rfl), (by first | exact c7 | rfl), hq, hu, RW_mono hR hmono, RW_mono hR' hmono, PR_mono hP hmono, PR_mono hP' hmono, hB, z0, hD, ⟨hE0.1, Or.inl rfl⟩, ⟨hE1.1, Or.inl rfl⟩, ⟨hE2.1, Or.inl rfl⟩, ⟨hE3.1, Or.inl rfl⟩, ⟨hE4.1, Or.inl rfl⟩, Or.inl rfl, Or.inl rfl, hH⟩
