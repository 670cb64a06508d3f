def lp_X1_findsRing_17 (N : Nat) (x2 : Int32) (v_p1_words : Int32) (v_p1_roads : Int32) (f_p1_kinds : Nat → Int32) (f_p1_sets : Nat → Int32) (f_p1_readers : Nat → Int32) (f_p1_eighths : Nat → Int32) (f_p1_wishes : Nat → Int32) (Φ : Int32 → (Nat → Int32) → Prop) : Nat → Int32 → (Nat → Int32) → Prop
  | 0, _, _ => False
  | n + 1, x3, f_this_ring => 
    ((x3 ≤ 0 → Φ 0 f_this_ring) ∧
     (¬ (x3 ≤ 0) → wp_X8_firstAgainst N 5 x2 v_p1_words v_p1_roads f_p1_kinds f_p1_sets f_p1_readers f_p1_eighths f_p1_wishes f_this_ring (fun r2 => 
     ((r2 = (-9) → Φ 1 f_this_ring) ∧
     (¬ (r2 = (-9)) → wp_X5_step N 5 x2 v_p1_words f_this_ring (fun o4_0 => 
     (lp_X1_findsRing_17 N x2 v_p1_words v_p1_roads f_p1_kinds f_p1_sets f_p1_readers f_p1_eighths f_p1_wishes Φ n) (x3 + (-1)) o4_0))))))
def wp_X1_findsRing (N : Nat) (x2 : Int32) (f_this_ring : Nat → Int32) (v_p1_words : Int32) (v_p1_roads : Int32) (f_p1_kinds : Nat → Int32) (f_p1_sets : Nat → Int32) (f_p1_readers : Nat → Int32) (f_p1_eighths : Nat → Int32) (f_p1_wishes : Nat → Int32) (Φ : Int32 → (Nat → Int32) → Prop) : Prop := 
    wp_X5_begin N 5 x2 f_this_ring (fun o1_0 => 
     wp_X5_howMany N v_p1_words x2 (fun r2 => 
     lp_X1_findsRing_17 N x2 v_p1_words v_p1_roads f_p1_kinds f_p1_sets f_p1_readers f_p1_eighths f_p1_wishes Φ N r2 o1_0))
abbrev zW_X1_findsRing (cI cC cS : ClassId) (q_this : Nat) (q_this_ring : Nat) (q_p1 : Nat) (q_p1_kinds : Nat) (q_p1_sets : Nat) (q_p1_readers : Nat) (q_p1_eighths : Nat) (q_p1_wishes : Nat) (q_p1_weights : Nat) (q_p1_stocks : Nat) (v_this_known : Int32) (v_this_places : Int32) (f_this_ring : Nat → Int32) (v_p1_words : Int32) (v_p1_roads : Int32) (f_p1_kinds : Nat → Int32) (f_p1_sets : Nat → Int32) (f_p1_readers : Nat → Int32) (f_p1_eighths : Nat → Int32) (f_p1_wishes : Nat → Int32) : va_W := [(q_this, .inr (1, [.int v_this_known, .int v_this_places, .ref q_this_ring])),
  (q_this_ring, .inl (cI, 5, .inl f_this_ring)),
  (q_p1, .inr (7, [.ref q_p1_kinds, .ref q_p1_sets, .ref q_p1_weights, .ref q_p1_stocks, .int v_p1_words, .ref q_p1_readers, .ref q_p1_eighths, .ref q_p1_wishes, .int v_p1_roads])),
  (q_p1_kinds, .inl (cI, 6, .inl f_p1_kinds)),
  (q_p1_sets, .inl (cI, 6, .inl f_p1_sets)),
  (q_p1_readers, .inl (cI, 6, .inl f_p1_readers)),
  (q_p1_eighths, .inl (cI, 6, .inl f_p1_eighths)),
  (q_p1_wishes, .inl (cI, 6, .inl f_p1_wishes))]
abbrev zr_X1_findsRing : Room := { frames := 4, cells := 0, slots := 0, locals := 102 }
set_option maxHeartbeats 4000000 in
set_option maxRecDepth 100000 in
theorem c_X1_findsRing (l : Launch) (dC : Nat → ClassId) (dI : Nat → Nat → Nat) (cI cC cS : ClassId) (q_this : Nat) (q_this_ring : Nat) (q_p1 : Nat) (q_p1_kinds : Nat) (q_p1_sets : Nat) (q_p1_readers : Nat) (q_p1_eighths : Nat) (q_p1_wishes : Nat) (q_p1_weights : Nat) (q_p1_stocks : Nat) (sz : Nat) (v_this_known : Int32) (v_this_places : Int32) (f_this_ring : Nat → Int32) (v_p1_words : Int32) (v_p1_roads : Int32) (f_p1_kinds : Nat → Int32) (f_p1_sets : Nat → Int32) (f_p1_readers : Nat → Int32) (f_p1_eighths : Nat → Int32) (f_p1_wishes : Nat → Int32) (x2 : Int32) (N : Nat) (Φ : Int32 → (Nat → Int32) → Prop)  (hf : wp_X1_findsRing N x2 f_this_ring v_p1_words v_p1_roads f_p1_kinds f_p1_sets f_p1_readers f_p1_eighths f_p1_wishes Φ) : Met l yX1_findsRing wsX1_findsRing zr_X1_findsRing (zPc (dC, dI) (zT cI cC cS) [.ref q_this, .ref q_p1, .int x2] sz (zW_X1_findsRing cI cC cS q_this q_this_ring q_p1 q_p1_kinds q_p1_sets q_p1_readers q_p1_eighths q_p1_wishes q_p1_weights q_p1_stocks v_this_known v_this_places f_this_ring v_p1_words v_p1_roads f_p1_kinds f_p1_sets f_p1_readers f_p1_eighths f_p1_wishes)) (zQi (dC, dI) (zT cI cC cS) (va_A (zW_X1_findsRing cI cC cS q_this q_this_ring q_p1 q_p1_kinds q_p1_sets q_p1_readers q_p1_eighths q_p1_wishes q_p1_weights q_p1_stocks v_this_known v_this_places f_this_ring v_p1_words v_p1_roads f_p1_kinds f_p1_sets f_p1_readers f_p1_eighths f_p1_wishes) sz) (fun (r : Int32) (u : (Nat → Int32)) => Φ r u) (fun u => (zW_X1_findsRing cI cC cS q_this q_this_ring q_p1 q_p1_kinds q_p1_sets q_p1_readers q_p1_eighths q_p1_wishes q_p1_weights q_p1_stocks v_this_known v_this_places u v_p1_words v_p1_roads f_p1_kinds f_p1_sets f_p1_readers f_p1_eighths f_p1_wishes))) 0 0 (va_A (zW_X1_findsRing cI cC cS q_this q_this_ring q_p1 q_p1_kinds q_p1_sets q_p1_readers q_p1_eighths q_p1_wishes q_p1_weights q_p1_stocks v_this_known v_this_places f_this_ring v_p1_words v_p1_roads f_p1_kinds f_p1_sets f_p1_readers f_p1_eighths f_p1_wishes) sz) := by
  refine Met.ofW (cc := cX1_findsRing) (maxL := 4) (ret := (some .boolean)) (by decide) rfl ?_
  intro p e s m args below meth c s₁ B hml hv
  obtain ⟨rfl, hsz, hP, hK, hD0⟩ := hv
  have hx := B.exec
  have hb := B.bytes
  have hr := B.returns
  have hts := atoms_spec (ws := wsX1_findsRing) B.pre
  have hown : s.vm.findClass RX1 = some m.cls := findClass_of_methodNamed B.named
  have hlocks := B.notSynchronized
  subst hsz
  have hD := hD0.self (sz := s.heap.size)
  have hA : ∀ q : Nat, s.heap.size ≤ q → va_A (zW_X1_findsRing cI cC cS q_this q_this_ring q_p1 q_p1_kinds q_p1_sets q_p1_readers q_p1_eighths q_p1_wishes q_p1_weights q_p1_stocks v_this_known v_this_places f_this_ring v_p1_words v_p1_roads f_p1_kinds f_p1_sets f_p1_readers f_p1_eighths f_p1_wishes) s.heap.size q := fun q h => Or.inr h
  generalize va_A (zW_X1_findsRing cI cC cS q_this q_this_ring q_p1 q_p1_kinds q_p1_sets q_p1_readers q_p1_eighths q_p1_wishes q_p1_weights q_p1_stocks v_this_known v_this_places f_this_ring v_p1_words v_p1_roads f_p1_kinds f_p1_sets f_p1_readers f_p1_eighths f_p1_wishes) s.heap.size = A at hD hA ⊢
  have hS : va_S A s.heap s.heap [] := va_S.rf
  have hl := lv_entry ([.ref q_this, .ref q_p1, .int x2]) (n := 4) (Nat.le_of_ble_eq_true rfl)
  rw [lg_entry_eq]
  generalize (lg_sl ([.ref q_this, .ref q_p1, .int x2]) ++ List.replicate (4 - (lg_sl ([.ref q_this, .ref q_p1, .int x2])).length) Slot.unset).toArray = ls at hl ⊢
  have hl : lv_has ls 4 [(0, .ref q_this), (1, .ref q_p1), (2, .int x2)] := hl
  have lk1 := hts (.fieldLink RX1 19 "ReadFromAnywhere$EachSearch" "ring" "[I") (List.mem_of_getElem? (i := 1) rfl)
  have inX1 : ∀ w ∈ u_ws RX1 TX1 3, w ∈ wsX1_findsRing := fun _ h => List.mem_cons_of_mem _ (List.mem_append_left _ (List.mem_append_right _ h))
  have lk2 := hts (.fieldLink RX1 33 "ReadFromAnywhere$Tongue" "words" "I") (List.mem_of_getElem? (i := 2) rfl)
  have inX8 : ∀ w ∈ u_ws RX8 TX8 9, w ∈ wsX1_findsRing := fun _ h => List.mem_cons_of_mem _ (List.mem_append_right _ h)
  have L17 : ∀ (n17 : Nat) (x3 : Int32) (f_this_ring : Nat → Int32), ∀ (H : Heap) (locs : List Loc) (ls : Array Slot), va_P (dC, dI) vwCl (zW_X1_findsRing cI cC cS q_this q_this_ring q_p1 q_p1_kinds q_p1_sets q_p1_readers q_p1_eighths q_p1_wishes q_p1_weights q_p1_stocks v_this_known v_this_places f_this_ring v_p1_words v_p1_roads f_p1_kinds f_p1_sets f_p1_readers f_p1_eighths f_p1_wishes) H → va_D A (zW_X1_findsRing cI cC cS q_this q_this_ring q_p1 q_p1_kinds q_p1_sets q_p1_readers q_p1_eighths q_p1_wishes q_p1_weights q_p1_stocks v_this_known v_this_places f_this_ring v_p1_words v_p1_roads f_p1_kinds f_p1_sets f_p1_readers f_p1_eighths f_p1_wishes) → va_S A s.heap H locs → lv_has ls 4 [(0, .ref q_this), (1, .ref q_p1), (2, .int x2), (3, .int x3)] → lp_X1_findsRing_17 N x2 v_p1_words v_p1_roads f_p1_kinds f_p1_sets f_p1_readers f_p1_eighths f_p1_wishes Φ n17 x3 f_this_ring → W p l e (headSpec wsX1_findsRing zr_X1_findsRing).room s m ([.ref q_this, .ref q_p1, .int x2] : List Value).toArray below meth c H locs 0 0 (MQ below (zQi (dC, dI) (zT cI cC cS) A (fun (r : Int32) (u : (Nat → Int32)) => Φ r u) (fun u => (zW_X1_findsRing cI cC cS q_this q_this_ring q_p1 q_p1_kinds q_p1_sets q_p1_readers q_p1_eighths q_p1_wishes q_p1_weights q_p1_stocks v_this_known v_this_places u v_p1_words v_p1_roads f_p1_kinds f_p1_sets f_p1_readers f_p1_eighths f_p1_wishes))) ([.ref q_this, .ref q_p1, .int x2] : List Value).toArray s 0 0 A) (F0 m 17 ls []) := by
    intro n17
    induction n17 with
    | zero =>
      intro x3 f_this_ring H locs ls hP hD hS hl hf
      exact absurd hf (by rw [lp_X1_findsRing_17]; exact id)
    | succ n17 ih17 =>
      intro x3 f_this_ring H locs ls hP hD hS hl hf
      rw [lp_X1_findsRing_17] at hf
      refine lv_iload_n hx hb dX1_findsRing_17 rfl (lv_at hl 3 rfl) ?_
      refine lv_if_le (tgt := 55) hx hb dX1_findsRing_18 (by decide) (fun c1 => ?_) (fun c1 => ?_)
      · replace hf := hf.1 c1
        refine lv_iconst (v := 0) hx hb dX1_findsRing_55 (by decide) ?_
        exact z_zret hx hb hr rfl hlocks (f_this_ring) hf hK hP hD hS dX1_findsRing_56
      · replace hf := hf.2 c1
        refine lv_aload_n hx hb dX1_findsRing_21 rfl (lv_at hl 1 rfl) ?_
        refine lv_aload_n hx hb dX1_findsRing_22 rfl (lv_at hl 0 rfl) ?_
        refine va_get (D := (dC, dI)) (ci := 1) (v := .ref q_this_ring) (C := RX1) (T := TX1) (N := 3) hx hb hts inX1 hown hK hP 0 rfl rfl 2 (by decide) lk1 (fun _ h9 => h9) rfl dX1_findsRing_23 ?_
        refine lv_iload_n hx hb dX1_findsRing_26 rfl (lv_at hl 2 rfl) ?_
        refine z_Vi (n := 2) (As := [.ref q_this_ring, .int x2]) (rest := []) ⟨hx, hb, hml, hown, hts⟩ (c_X8_firstAgainst l dC dI cI cC cS q_p1 q_p1_kinds q_p1_sets q_p1_readers q_p1_eighths q_p1_wishes q_this_ring q_p1_weights q_p1_stocks _ 5 v_p1_words v_p1_roads f_p1_kinds f_p1_sets f_p1_readers f_p1_eighths f_p1_wishes f_this_ring x2 N _  hf) gX1_findsRing_X8_firstAgainst rfl rfl rfl (by decide +kernel) ⟨Nat.le_of_ble_eq_true rfl, Nat.le_of_ble_eq_true rfl⟩ hK hP hD hS hA 2 7 rfl rfl rfl hl.1 rfl (Nat.le_of_ble_eq_true rfl) dX1_findsRing_27 ⟨Nat.zero_le _, Nat.zero_le _⟩ [2, 3, 4, 5, 6, 7, 1] [0] (([(q_this, .inr (1, [.int v_this_known, .int v_this_places, .ref q_this_ring]))] : va_W)) rfl rfl (by decide) (by decide) (by decide) (fun u => (zW_X1_findsRing cI cC cS q_this q_this_ring q_p1 q_p1_kinds q_p1_sets q_p1_readers q_p1_eighths q_p1_wishes q_p1_weights q_p1_stocks v_this_known v_this_places f_this_ring v_p1_words v_p1_roads f_p1_kinds f_p1_sets f_p1_readers f_p1_eighths f_p1_wishes)) [0, 7, 1, 2, 3, 4, 5, 6] (fun u => rfl) (by decide) (fun r2 u2 H locs hf hP hD hS => ?_)
        have hP : va_P (dC, dI) vwCl (zW_X1_findsRing cI cC cS q_this q_this_ring q_p1 q_p1_kinds q_p1_sets q_p1_readers q_p1_eighths q_p1_wishes q_p1_weights q_p1_stocks v_this_known v_this_places f_this_ring v_p1_words v_p1_roads f_p1_kinds f_p1_sets f_p1_readers f_p1_eighths f_p1_wishes) H := hP
        have hD : va_D A (zW_X1_findsRing cI cC cS q_this q_this_ring q_p1 q_p1_kinds q_p1_sets q_p1_readers q_p1_eighths q_p1_wishes q_p1_weights q_p1_stocks v_this_known v_this_places f_this_ring v_p1_words v_p1_roads f_p1_kinds f_p1_sets f_p1_readers f_p1_eighths f_p1_wishes) := hD
        refine lv_bipush (v := (-9)) hx hb dX1_findsRing_30 (by decide) ?_
        refine lv_icmp_ne (tgt := 37) hx hb dX1_findsRing_32 (by decide) (fun c3 => ?_) (fun c3 => ?_)
        · replace hf := hf.2 c3
          refine lv_aload_n hx hb dX1_findsRing_37 rfl (lv_at hl 0 rfl) ?_
          refine va_get (D := (dC, dI)) (ci := 1) (v := .ref q_this_ring) (C := RX1) (T := TX1) (N := 3) hx hb hts inX1 hown hK hP 0 rfl rfl 2 (by decide) lk1 (fun _ h9 => h9) rfl dX1_findsRing_38 ?_
          refine lv_iload_n hx hb dX1_findsRing_41 rfl (lv_at hl 2 rfl) ?_
          refine lv_aload_n hx hb dX1_findsRing_42 rfl (lv_at hl 1 rfl) ?_
          refine va_get (D := (dC, dI)) (ci := 7) (v := .int v_p1_words) (C := RX8) (T := TX8) (N := 9) hx hb hts inX8 hown hK hP 2 rfl rfl 4 (by decide) lk2 (fun _ h9 => h9) rfl dX1_findsRing_43 ?_
          refine z_Sv (n := 3) (As := [.ref q_this_ring, .int x2, .int v_p1_words]) (rest := []) ⟨hx, hb, hml, hown, hts⟩ (c_X5_step l dC dI cI cC cS q_this_ring _ 5 f_this_ring x2 v_p1_words N _  hf) gX1_findsRing_X5_step rfl rfl rfl (by decide +kernel) ⟨Nat.le_of_ble_eq_true rfl, Nat.le_of_ble_eq_true rfl⟩ hK hP hD hS hA rfl hl.1 rfl (Nat.le_of_ble_eq_true rfl) dX1_findsRing_46 ⟨Nat.zero_le _, Nat.zero_le _⟩ [1] [0, 2, 3, 4, 5, 6, 7] (([(q_this, .inr (1, [.int v_this_known, .int v_this_places, .ref q_this_ring])), (q_p1, .inr (7, [.ref q_p1_kinds, .ref q_p1_sets, .ref q_p1_weights, .ref q_p1_stocks, .int v_p1_words, .ref q_p1_readers, .ref q_p1_eighths, .ref q_p1_wishes, .int v_p1_roads])), (q_p1_kinds, .inl (cI, 6, .inl f_p1_kinds)), (q_p1_sets, .inl (cI, 6, .inl f_p1_sets)), (q_p1_readers, .inl (cI, 6, .inl f_p1_readers)), (q_p1_eighths, .inl (cI, 6, .inl f_p1_eighths)), (q_p1_wishes, .inl (cI, 6, .inl f_p1_wishes))] : va_W)) rfl rfl (by decide) (by decide) (by decide) (fun u => (zW_X1_findsRing cI cC cS q_this q_this_ring q_p1 q_p1_kinds q_p1_sets q_p1_readers q_p1_eighths q_p1_wishes q_p1_weights q_p1_stocks v_this_known v_this_places u v_p1_words v_p1_roads f_p1_kinds f_p1_sets f_p1_readers f_p1_eighths f_p1_wishes)) [0, 7, 1, 2, 3, 4, 5, 6] (fun u => rfl) (by decide) (fun u4 H locs hf hP hD hS => ?_)
          have hP : va_P (dC, dI) vwCl (zW_X1_findsRing cI cC cS q_this q_this_ring q_p1 q_p1_kinds q_p1_sets q_p1_readers q_p1_eighths q_p1_wishes q_p1_weights q_p1_stocks v_this_known v_this_places u4 v_p1_words v_p1_roads f_p1_kinds f_p1_sets f_p1_readers f_p1_eighths f_p1_wishes) H := hP
          have hD : va_D A (zW_X1_findsRing cI cC cS q_this q_this_ring q_p1 q_p1_kinds q_p1_sets q_p1_readers q_p1_eighths q_p1_wishes q_p1_weights q_p1_stocks v_this_known v_this_places u4 v_p1_words v_p1_roads f_p1_kinds f_p1_sets f_p1_readers f_p1_eighths f_p1_wishes) := hD
          refine lv_iinc (v := (x3 + (-1))) (lv' := [(3, .int (x3 + (-1))), (0, .ref q_this), (1, .ref q_p1), (2, .int x2)]) hx hb dX1_findsRing_49 hl (k := 3) rfl (by rfl) (by decide) rfl (fun ls hl => ?_)
          refine lv_goto (tgt := 17) hx hb dX1_findsRing_52 (by decide) ?_
          exact ih17 (x3 + (-1)) u4 _ _ _ hP hD hS (lv_sub hl [1, 2, 3, 0] rfl) hf
        · replace hf := hf.1 c3
          refine lv_iconst (v := 1) hx hb dX1_findsRing_35 (by decide) ?_
          exact z_zret hx hb hr rfl hlocks (f_this_ring) hf hK hP hD hS dX1_findsRing_36
  unfold wp_X1_findsRing at hf
  refine lv_aload_n hx hb dX1_findsRing_0 rfl (lv_at hl 0 rfl) ?_
  refine va_get (D := (dC, dI)) (ci := 1) (v := .ref q_this_ring) (C := RX1) (T := TX1) (N := 3) hx hb hts inX1 hown hK hP 0 rfl rfl 2 (by decide) lk1 (fun _ h9 => h9) rfl dX1_findsRing_1 ?_
  refine lv_iload_n hx hb dX1_findsRing_4 rfl (lv_at hl 2 rfl) ?_
  refine z_Sv (n := 2) (As := [.ref q_this_ring, .int x2]) (rest := []) ⟨hx, hb, hml, hown, hts⟩ (c_X5_begin l dC dI cI cC cS q_this_ring _ 5 f_this_ring x2 N _  hf) gX1_findsRing_X5_begin rfl rfl rfl (by decide +kernel) ⟨Nat.le_of_ble_eq_true rfl, Nat.le_of_ble_eq_true rfl⟩ hK hP hD hS hA rfl hl.1 rfl (Nat.le_of_ble_eq_true rfl) dX1_findsRing_5 ⟨Nat.zero_le _, Nat.zero_le _⟩ [1] [0, 2, 3, 4, 5, 6, 7] (([(q_this, .inr (1, [.int v_this_known, .int v_this_places, .ref q_this_ring])), (q_p1, .inr (7, [.ref q_p1_kinds, .ref q_p1_sets, .ref q_p1_weights, .ref q_p1_stocks, .int v_p1_words, .ref q_p1_readers, .ref q_p1_eighths, .ref q_p1_wishes, .int v_p1_roads])), (q_p1_kinds, .inl (cI, 6, .inl f_p1_kinds)), (q_p1_sets, .inl (cI, 6, .inl f_p1_sets)), (q_p1_readers, .inl (cI, 6, .inl f_p1_readers)), (q_p1_eighths, .inl (cI, 6, .inl f_p1_eighths)), (q_p1_wishes, .inl (cI, 6, .inl f_p1_wishes))] : va_W)) rfl rfl (by decide) (by decide) (by decide) (fun u => (zW_X1_findsRing cI cC cS q_this q_this_ring q_p1 q_p1_kinds q_p1_sets q_p1_readers q_p1_eighths q_p1_wishes q_p1_weights q_p1_stocks v_this_known v_this_places u v_p1_words v_p1_roads f_p1_kinds f_p1_sets f_p1_readers f_p1_eighths f_p1_wishes)) [0, 7, 1, 2, 3, 4, 5, 6] (fun u => rfl) (by decide) (fun u1 H locs hf hP hD hS => ?_)
  have hP : va_P (dC, dI) vwCl (zW_X1_findsRing cI cC cS q_this q_this_ring q_p1 q_p1_kinds q_p1_sets q_p1_readers q_p1_eighths q_p1_wishes q_p1_weights q_p1_stocks v_this_known v_this_places u1 v_p1_words v_p1_roads f_p1_kinds f_p1_sets f_p1_readers f_p1_eighths f_p1_wishes) H := hP
  have hD : va_D A (zW_X1_findsRing cI cC cS q_this q_this_ring q_p1 q_p1_kinds q_p1_sets q_p1_readers q_p1_eighths q_p1_wishes q_p1_weights q_p1_stocks v_this_known v_this_places u1 v_p1_words v_p1_roads f_p1_kinds f_p1_sets f_p1_readers f_p1_eighths f_p1_wishes) := hD
  refine lv_aload_n hx hb dX1_findsRing_8 rfl (lv_at hl 1 rfl) ?_
  refine va_get (D := (dC, dI)) (ci := 7) (v := .int v_p1_words) (C := RX8) (T := TX8) (N := 9) hx hb hts inX8 hown hK hP 2 rfl rfl 4 (by decide) lk2 (fun _ h9 => h9) rfl dX1_findsRing_9 ?_
  refine lv_iload_n hx hb dX1_findsRing_12 rfl (lv_at hl 2 rfl) ?_
  refine z_Si (n := 2) (As := [.int v_p1_words, .int x2]) (rest := []) ⟨hx, hb, hml, hown, hts⟩ (c_X5_howMany l dC dI cI cC cS  _  v_p1_words x2 N _  hf) gX1_findsRing_X5_howMany rfl rfl rfl (by decide +kernel) ⟨Nat.le_of_ble_eq_true rfl, Nat.le_of_ble_eq_true rfl⟩ hK hP hD hS hA rfl hl.1 rfl (Nat.le_of_ble_eq_true rfl) dX1_findsRing_13 ⟨Nat.zero_le _, Nat.zero_le _⟩ [] [0, 1, 2, 3, 4, 5, 6, 7] (([(q_this, .inr (1, [.int v_this_known, .int v_this_places, .ref q_this_ring])), (q_this_ring, .inl (cI, 5, .inl u1)), (q_p1, .inr (7, [.ref q_p1_kinds, .ref q_p1_sets, .ref q_p1_weights, .ref q_p1_stocks, .int v_p1_words, .ref q_p1_readers, .ref q_p1_eighths, .ref q_p1_wishes, .int v_p1_roads])), (q_p1_kinds, .inl (cI, 6, .inl f_p1_kinds)), (q_p1_sets, .inl (cI, 6, .inl f_p1_sets)), (q_p1_readers, .inl (cI, 6, .inl f_p1_readers)), (q_p1_eighths, .inl (cI, 6, .inl f_p1_eighths)), (q_p1_wishes, .inl (cI, 6, .inl f_p1_wishes))] : va_W)) rfl rfl (by decide) (by decide) (by decide) (fun u => (zW_X1_findsRing cI cC cS q_this q_this_ring q_p1 q_p1_kinds q_p1_sets q_p1_readers q_p1_eighths q_p1_wishes q_p1_weights q_p1_stocks v_this_known v_this_places u1 v_p1_words v_p1_roads f_p1_kinds f_p1_sets f_p1_readers f_p1_eighths f_p1_wishes)) [0, 1, 2, 3, 4, 5, 6, 7] (fun u => rfl) (by decide) (fun r2 u2 H locs hf hP hD hS => ?_)
  have hP : va_P (dC, dI) vwCl (zW_X1_findsRing cI cC cS q_this q_this_ring q_p1 q_p1_kinds q_p1_sets q_p1_readers q_p1_eighths q_p1_wishes q_p1_weights q_p1_stocks v_this_known v_this_places u1 v_p1_words v_p1_roads f_p1_kinds f_p1_sets f_p1_readers f_p1_eighths f_p1_wishes) H := hP
  have hD : va_D A (zW_X1_findsRing cI cC cS q_this q_this_ring q_p1 q_p1_kinds q_p1_sets q_p1_readers q_p1_eighths q_p1_wishes q_p1_weights q_p1_stocks v_this_known v_this_places u1 v_p1_words v_p1_roads f_p1_kinds f_p1_sets f_p1_readers f_p1_eighths f_p1_wishes) := hD
  refine lv_istore_n (lv' := [(3, .int r2), (0, .ref q_this), (1, .ref q_p1), (2, .int x2)]) hx hb dX1_findsRing_16 rfl hl (by decide) rfl (fun ls hl => ?_)
  exact L17  N r2 u1 _ _ _ hP hD hS (lv_sub hl [1, 2, 3, 0] rfl) hf
def lp_X1_seek_15 (N : Nat) (v_this_known : Int32) (v_p1_words : Int32) (v_p1_roads : Int32) (f_p1_kinds : Nat → Int32) (f_p1_sets : Nat → Int32) (f_p1_readers : Nat → Int32) (f_p1_eighths : Nat → Int32) (f_p1_wishes : Nat → Int32) (Φ : Int32 → Int32 → (Nat → Int32) → Prop) : Nat → Int32 → Int32 → (Nat → Int32) → Prop
  | 0, _, _, _ => False
  | n + 1, x2, v_this_places, f_this_ring => 
    ((5 < x2 → Φ 1 v_this_places f_this_ring) ∧
     (¬ (5 < x2) → ((v_this_places = 0 → wp_X1_findsRing N x2 f_this_ring v_p1_words v_p1_roads f_p1_kinds f_p1_sets f_p1_readers f_p1_eighths f_p1_wishes (fun r3 o3_0 => 
     ((r3 = 0 → (lp_X1_seek_15 N v_this_known v_p1_words v_p1_roads f_p1_kinds f_p1_sets f_p1_readers f_p1_eighths f_p1_wishes Φ n) (x2 + 1) v_this_places o3_0) ∧
     (¬ (r3 = 0) → (lp_X1_seek_15 N v_this_known v_p1_words v_p1_roads f_p1_kinds f_p1_sets f_p1_readers f_p1_eighths f_p1_wishes Φ n) (x2 + 1) x2 o3_0)))) ∧
     (¬ (v_this_places = 0) → Φ 1 v_this_places f_this_ring))))
def wp_X1_seek (N : Nat) (v_this_known : Int32) (v_this_places : Int32) (f_this_ring : Nat → Int32) (v_p1_words : Int32) (v_p1_roads : Int32) (f_p1_kinds : Nat → Int32) (f_p1_sets : Nat → Int32) (f_p1_readers : Nat → Int32) (f_p1_eighths : Nat → Int32) (f_p1_wishes : Nat → Int32) (Φ : Int32 → Int32 → (Nat → Int32) → Prop) : Prop := 
    ((v_this_known = 0 → lp_X1_seek_15 N v_this_known v_p1_words v_p1_roads f_p1_kinds f_p1_sets f_p1_readers f_p1_eighths f_p1_wishes Φ N 1 0 f_this_ring) ∧
     (¬ (v_this_known = 0) → Φ v_this_known v_this_places f_this_ring))
abbrev zW_X1_seek (cI cC cS : ClassId) (q_this : Nat) (q_this_ring : Nat) (q_p1 : Nat) (q_p1_kinds : Nat) (q_p1_sets : Nat) (q_p1_readers : Nat) (q_p1_eighths : Nat) (q_p1_wishes : Nat) (q_p1_weights : Nat) (q_p1_stocks : Nat) (v_this_known : Int32) (v_this_places : Int32) (f_this_ring : Nat → Int32) (v_p1_words : Int32) (v_p1_roads : Int32) (f_p1_kinds : Nat → Int32) (f_p1_sets : Nat → Int32) (f_p1_readers : Nat → Int32) (f_p1_eighths : Nat → Int32) (f_p1_wishes : Nat → Int32) : va_W := [(q_this, .inr (1, [.int v_this_known, .int v_this_places, .ref q_this_ring])),
  (q_this_ring, .inl (cI, 5, .inl f_this_ring)),
  (q_p1, .inr (7, [.ref q_p1_kinds, .ref q_p1_sets, .ref q_p1_weights, .ref q_p1_stocks, .int v_p1_words, .ref q_p1_readers, .ref q_p1_eighths, .ref q_p1_wishes, .int v_p1_roads])),
  (q_p1_kinds, .inl (cI, 6, .inl f_p1_kinds)),
  (q_p1_sets, .inl (cI, 6, .inl f_p1_sets)),
  (q_p1_readers, .inl (cI, 6, .inl f_p1_readers)),
  (q_p1_eighths, .inl (cI, 6, .inl f_p1_eighths)),
  (q_p1_wishes, .inl (cI, 6, .inl f_p1_wishes))]
abbrev zr_X1_seek : Room := { frames := 5, cells := 0, slots := 0, locals := 125 }
set_option maxHeartbeats 4000000 in
set_option maxRecDepth 100000 in
theorem c_X1_seek (l : Launch) (dC : Nat → ClassId) (dI : Nat → Nat → Nat) (cI cC cS : ClassId) (q_this : Nat) (q_this_ring : Nat) (q_p1 : Nat) (q_p1_kinds : Nat) (q_p1_sets : Nat) (q_p1_readers : Nat) (q_p1_eighths : Nat) (q_p1_wishes : Nat) (q_p1_weights : Nat) (q_p1_stocks : Nat) (sz : Nat) (v_this_known : Int32) (v_this_places : Int32) (f_this_ring : Nat → Int32) (v_p1_words : Int32) (v_p1_roads : Int32) (f_p1_kinds : Nat → Int32) (f_p1_sets : Nat → Int32) (f_p1_readers : Nat → Int32) (f_p1_eighths : Nat → Int32) (f_p1_wishes : Nat → Int32) (N : Nat) (Φ : Int32 → Int32 → (Nat → Int32) → Prop)  (hf : wp_X1_seek N v_this_known v_this_places f_this_ring v_p1_words v_p1_roads f_p1_kinds f_p1_sets f_p1_readers f_p1_eighths f_p1_wishes Φ) : Met l yX1_seek wsX1_seek zr_X1_seek (zPc (dC, dI) (zT cI cC cS) [.ref q_this, .ref q_p1] sz (zW_X1_seek cI cC cS q_this q_this_ring q_p1 q_p1_kinds q_p1_sets q_p1_readers q_p1_eighths q_p1_wishes q_p1_weights q_p1_stocks v_this_known v_this_places f_this_ring v_p1_words v_p1_roads f_p1_kinds f_p1_sets f_p1_readers f_p1_eighths f_p1_wishes)) (zQv (dC, dI) (zT cI cC cS) (va_A (zW_X1_seek cI cC cS q_this q_this_ring q_p1 q_p1_kinds q_p1_sets q_p1_readers q_p1_eighths q_p1_wishes q_p1_weights q_p1_stocks v_this_known v_this_places f_this_ring v_p1_words v_p1_roads f_p1_kinds f_p1_sets f_p1_readers f_p1_eighths f_p1_wishes) sz) (fun (u : (Int32) × (Int32) × (Nat → Int32)) => Φ u.1 u.2.1 u.2.2) (fun u => (zW_X1_seek cI cC cS q_this q_this_ring q_p1 q_p1_kinds q_p1_sets q_p1_readers q_p1_eighths q_p1_wishes q_p1_weights q_p1_stocks u.1 u.2.1 u.2.2 v_p1_words v_p1_roads f_p1_kinds f_p1_sets f_p1_readers f_p1_eighths f_p1_wishes))) 0 0 (va_A (zW_X1_seek cI cC cS q_this q_this_ring q_p1 q_p1_kinds q_p1_sets q_p1_readers q_p1_eighths q_p1_wishes q_p1_weights q_p1_stocks v_this_known v_this_places f_this_ring v_p1_words v_p1_roads f_p1_kinds f_p1_sets f_p1_readers f_p1_eighths f_p1_wishes) sz) := by
  refine Met.ofW (cc := cX1_seek) (maxL := 3) (ret := none) (by decide) rfl ?_
  intro p e s m args below meth c s₁ B hml hv
  obtain ⟨rfl, hsz, hP, hK, hD0⟩ := hv
  have hx := B.exec
  have hb := B.bytes
  have hr := B.returns
  have hts := atoms_spec (ws := wsX1_seek) B.pre
  have hown : s.vm.findClass RX1 = some m.cls := findClass_of_methodNamed B.named
  have hlocks := B.notSynchronized
  subst hsz
  have hD := hD0.self (sz := s.heap.size)
  have hA : ∀ q : Nat, s.heap.size ≤ q → va_A (zW_X1_seek cI cC cS q_this q_this_ring q_p1 q_p1_kinds q_p1_sets q_p1_readers q_p1_eighths q_p1_wishes q_p1_weights q_p1_stocks v_this_known v_this_places f_this_ring v_p1_words v_p1_roads f_p1_kinds f_p1_sets f_p1_readers f_p1_eighths f_p1_wishes) s.heap.size q := fun q h => Or.inr h
  generalize va_A (zW_X1_seek cI cC cS q_this q_this_ring q_p1 q_p1_kinds q_p1_sets q_p1_readers q_p1_eighths q_p1_wishes q_p1_weights q_p1_stocks v_this_known v_this_places f_this_ring v_p1_words v_p1_roads f_p1_kinds f_p1_sets f_p1_readers f_p1_eighths f_p1_wishes) s.heap.size = A at hD hA ⊢
  have hS : va_S A s.heap s.heap [] := va_S.rf
  have hl := lv_entry ([.ref q_this, .ref q_p1]) (n := 3) (Nat.le_of_ble_eq_true rfl)
  rw [lg_entry_eq]
  generalize (lg_sl ([.ref q_this, .ref q_p1]) ++ List.replicate (3 - (lg_sl ([.ref q_this, .ref q_p1])).length) Slot.unset).toArray = ls at hl ⊢
  have hl : lv_has ls 3 [(0, .ref q_this), (1, .ref q_p1)] := hl
  have lk1 := hts (.fieldLink RX1 9 "ReadFromAnywhere$EachSearch" "known" "Z") (List.mem_of_getElem? (i := 1) rfl)
  have inX1 : ∀ w ∈ u_ws RX1 TX1 3, w ∈ wsX1_seek := fun _ h => List.mem_cons_of_mem _ (List.mem_append_left _ (List.mem_append_right _ h))
  have lk2 := hts (.fieldLink RX1 15 "ReadFromAnywhere$EachSearch" "places" "I") (List.mem_of_getElem? (i := 2) rfl)
  have L15 : ∀ (v_this_known : Int32), ∀ (n15 : Nat) (x2 : Int32) (v_this_places : Int32) (f_this_ring : Nat → Int32), ∀ (H : Heap) (locs : List Loc) (ls : Array Slot), va_P (dC, dI) vwCl (zW_X1_seek cI cC cS q_this q_this_ring q_p1 q_p1_kinds q_p1_sets q_p1_readers q_p1_eighths q_p1_wishes q_p1_weights q_p1_stocks v_this_known v_this_places f_this_ring v_p1_words v_p1_roads f_p1_kinds f_p1_sets f_p1_readers f_p1_eighths f_p1_wishes) H → va_D A (zW_X1_seek cI cC cS q_this q_this_ring q_p1 q_p1_kinds q_p1_sets q_p1_readers q_p1_eighths q_p1_wishes q_p1_weights q_p1_stocks v_this_known v_this_places f_this_ring v_p1_words v_p1_roads f_p1_kinds f_p1_sets f_p1_readers f_p1_eighths f_p1_wishes) → va_S A s.heap H locs → lv_has ls 3 [(0, .ref q_this), (1, .ref q_p1), (2, .int x2)] → lp_X1_seek_15 N v_this_known v_p1_words v_p1_roads f_p1_kinds f_p1_sets f_p1_readers f_p1_eighths f_p1_wishes Φ n15 x2 v_this_places f_this_ring → W p l e (headSpec wsX1_seek zr_X1_seek).room s m ([.ref q_this, .ref q_p1] : List Value).toArray below meth c H locs 0 0 (MQ below (zQv (dC, dI) (zT cI cC cS) A (fun (u : (Int32) × (Int32) × (Nat → Int32)) => Φ u.1 u.2.1 u.2.2) (fun u => (zW_X1_seek cI cC cS q_this q_this_ring q_p1 q_p1_kinds q_p1_sets q_p1_readers q_p1_eighths q_p1_wishes q_p1_weights q_p1_stocks u.1 u.2.1 u.2.2 v_p1_words v_p1_roads f_p1_kinds f_p1_sets f_p1_readers f_p1_eighths f_p1_wishes))) ([.ref q_this, .ref q_p1] : List Value).toArray s 0 0 A) (F0 m 15 ls []) := by
    intro v_this_known
    intro n15
    induction n15 with
    | zero =>
      intro x2 v_this_places f_this_ring H locs ls hP hD hS hl hf
      exact absurd hf (by rw [lp_X1_seek_15]; exact id)
    | succ n15 ih15 =>
      intro x2 v_this_places f_this_ring H locs ls hP hD hS hl hf
      rw [lp_X1_seek_15] at hf
      refine lv_iload_n hx hb dX1_seek_15 rfl (lv_at hl 2 rfl) ?_
      refine lv_iconst (v := 5) hx hb dX1_seek_16 (by decide) ?_
      refine lv_icmp_gt (tgt := 47) hx hb dX1_seek_17 (by decide) (fun c1 => ?_) (fun c1 => ?_)
      · replace hf := hf.1 c1
        refine lv_aload_n hx hb dX1_seek_47 rfl (lv_at hl 0 rfl) ?_
        refine lv_iconst (v := 1) hx hb dX1_seek_48 (by decide) ?_
        refine va_put (D := (dC, dI)) (ci := 1) (v := .int 1) (ty := .boolean) (C := RX1) (T := TX1) (N := 3) hx hb hts inX1 tyX1 tyX1_ok nmX1 hown hK hP hD hS 0 rfl rfl 0 (by decide) lk1 (fun _ h9 => h9) rfl (by decide +kernel) rfl rfl (Nat.le_of_ble_eq_true rfl) dX1_seek_49 (fun H locs hP hD hS => ?_)
        have hP : va_P (dC, dI) vwCl (zW_X1_seek cI cC cS q_this q_this_ring q_p1 q_p1_kinds q_p1_sets q_p1_readers q_p1_eighths q_p1_wishes q_p1_weights q_p1_stocks 1 v_this_places f_this_ring v_p1_words v_p1_roads f_p1_kinds f_p1_sets f_p1_readers f_p1_eighths f_p1_wishes) H := hP
        have hD : va_D A (zW_X1_seek cI cC cS q_this q_this_ring q_p1 q_p1_kinds q_p1_sets q_p1_readers q_p1_eighths q_p1_wishes q_p1_weights q_p1_stocks 1 v_this_places f_this_ring v_p1_words v_p1_roads f_p1_kinds f_p1_sets f_p1_readers f_p1_eighths f_p1_wishes) := hD
        exact z_vret hx hb hr hlocks (1, v_this_places, f_this_ring) hf hK hP hD hS dX1_seek_52
      · replace hf := hf.2 c1
        refine lv_aload_n hx hb dX1_seek_20 rfl (lv_at hl 0 rfl) ?_
        refine va_get (D := (dC, dI)) (ci := 1) (v := .int v_this_places) (C := RX1) (T := TX1) (N := 3) hx hb hts inX1 hown hK hP 0 rfl rfl 1 (by decide) lk2 (fun _ h9 => h9) rfl dX1_seek_21 ?_
        refine lv_if_ne (tgt := 47) hx hb dX1_seek_24 (by decide) (fun c2 => ?_) (fun c2 => ?_)
        · replace hf := hf.2 c2
          refine lv_aload_n hx hb dX1_seek_47 rfl (lv_at hl 0 rfl) ?_
          refine lv_iconst (v := 1) hx hb dX1_seek_48 (by decide) ?_
          refine va_put (D := (dC, dI)) (ci := 1) (v := .int 1) (ty := .boolean) (C := RX1) (T := TX1) (N := 3) hx hb hts inX1 tyX1 tyX1_ok nmX1 hown hK hP hD hS 0 rfl rfl 0 (by decide) lk1 (fun _ h9 => h9) rfl (by decide +kernel) rfl rfl (Nat.le_of_ble_eq_true rfl) dX1_seek_49 (fun H locs hP hD hS => ?_)
          have hP : va_P (dC, dI) vwCl (zW_X1_seek cI cC cS q_this q_this_ring q_p1 q_p1_kinds q_p1_sets q_p1_readers q_p1_eighths q_p1_wishes q_p1_weights q_p1_stocks 1 v_this_places f_this_ring v_p1_words v_p1_roads f_p1_kinds f_p1_sets f_p1_readers f_p1_eighths f_p1_wishes) H := hP
          have hD : va_D A (zW_X1_seek cI cC cS q_this q_this_ring q_p1 q_p1_kinds q_p1_sets q_p1_readers q_p1_eighths q_p1_wishes q_p1_weights q_p1_stocks 1 v_this_places f_this_ring v_p1_words v_p1_roads f_p1_kinds f_p1_sets f_p1_readers f_p1_eighths f_p1_wishes) := hD
          exact z_vret hx hb hr hlocks (1, v_this_places, f_this_ring) hf hK hP hD hS dX1_seek_52
        · replace hf := hf.1 c2
          refine lv_aload_n hx hb dX1_seek_27 rfl (lv_at hl 0 rfl) ?_
          refine lv_aload_n hx hb dX1_seek_28 rfl (lv_at hl 1 rfl) ?_
          refine lv_iload_n hx hb dX1_seek_29 rfl (lv_at hl 2 rfl) ?_
          refine z_Vi (n := 2) (As := [.ref q_p1, .int x2]) (rest := []) ⟨hx, hb, hml, hown, hts⟩ (c_X1_findsRing l dC dI cI cC cS q_this q_this_ring q_p1 q_p1_kinds q_p1_sets q_p1_readers q_p1_eighths q_p1_wishes q_p1_weights q_p1_stocks _ v_this_known v_this_places f_this_ring v_p1_words v_p1_roads f_p1_kinds f_p1_sets f_p1_readers f_p1_eighths f_p1_wishes x2 N _  hf) gX1_seek_X1_findsRing rfl rfl rfl (by decide +kernel) ⟨Nat.le_of_ble_eq_true rfl, Nat.le_of_ble_eq_true rfl⟩ hK hP hD hS hA 0 1 rfl rfl rfl hl.1 rfl (Nat.le_of_ble_eq_true rfl) dX1_seek_30 ⟨Nat.zero_le _, Nat.zero_le _⟩ [0, 1, 2, 3, 4, 5, 6, 7] [] (([] : va_W)) rfl rfl (by decide) (by decide) (by decide) (fun u => (zW_X1_seek cI cC cS q_this q_this_ring q_p1 q_p1_kinds q_p1_sets q_p1_readers q_p1_eighths q_p1_wishes q_p1_weights q_p1_stocks v_this_known v_this_places u v_p1_words v_p1_roads f_p1_kinds f_p1_sets f_p1_readers f_p1_eighths f_p1_wishes)) [0, 1, 2, 3, 4, 5, 6, 7] (fun u => rfl) (by decide) (fun r3 u3 H locs hf hP hD hS => ?_)
          have hP : va_P (dC, dI) vwCl (zW_X1_seek cI cC cS q_this q_this_ring q_p1 q_p1_kinds q_p1_sets q_p1_readers q_p1_eighths q_p1_wishes q_p1_weights q_p1_stocks v_this_known v_this_places u3 v_p1_words v_p1_roads f_p1_kinds f_p1_sets f_p1_readers f_p1_eighths f_p1_wishes) H := hP
          have hD : va_D A (zW_X1_seek cI cC cS q_this q_this_ring q_p1 q_p1_kinds q_p1_sets q_p1_readers q_p1_eighths q_p1_wishes q_p1_weights q_p1_stocks v_this_known v_this_places u3 v_p1_words v_p1_roads f_p1_kinds f_p1_sets f_p1_readers f_p1_eighths f_p1_wishes) := hD
          refine lv_if_eq (tgt := 41) hx hb dX1_seek_33 (by decide) (fun c4 => ?_) (fun c4 => ?_)
          · replace hf := hf.1 c4
            refine lv_iinc (v := (x2 + 1)) (lv' := [(2, .int (x2 + 1)), (0, .ref q_this), (1, .ref q_p1)]) hx hb dX1_seek_41 hl (k := 2) rfl (by rfl) (by decide) rfl (fun ls hl => ?_)
            refine lv_goto (tgt := 15) hx hb dX1_seek_44 (by decide) ?_
            exact ih15 (x2 + 1) v_this_places u3 _ _ _ hP hD hS (lv_sub hl [1, 2, 0] rfl) hf
          · replace hf := hf.2 c4
            refine lv_aload_n hx hb dX1_seek_36 rfl (lv_at hl 0 rfl) ?_
            refine lv_iload_n hx hb dX1_seek_37 rfl (lv_at hl 2 rfl) ?_
            refine va_put (D := (dC, dI)) (ci := 1) (v := .int x2) (ty := .int) (C := RX1) (T := TX1) (N := 3) hx hb hts inX1 tyX1 tyX1_ok nmX1 hown hK hP hD hS 0 rfl rfl 1 (by decide) lk2 (fun _ h9 => h9) rfl (by decide +kernel) rfl rfl (Nat.le_of_ble_eq_true rfl) dX1_seek_38 (fun H locs hP hD hS => ?_)
            have hP : va_P (dC, dI) vwCl (zW_X1_seek cI cC cS q_this q_this_ring q_p1 q_p1_kinds q_p1_sets q_p1_readers q_p1_eighths q_p1_wishes q_p1_weights q_p1_stocks v_this_known x2 u3 v_p1_words v_p1_roads f_p1_kinds f_p1_sets f_p1_readers f_p1_eighths f_p1_wishes) H := hP
            have hD : va_D A (zW_X1_seek cI cC cS q_this q_this_ring q_p1 q_p1_kinds q_p1_sets q_p1_readers q_p1_eighths q_p1_wishes q_p1_weights q_p1_stocks v_this_known x2 u3 v_p1_words v_p1_roads f_p1_kinds f_p1_sets f_p1_readers f_p1_eighths f_p1_wishes) := hD
            refine lv_iinc (v := (x2 + 1)) (lv' := [(2, .int (x2 + 1)), (0, .ref q_this), (1, .ref q_p1)]) hx hb dX1_seek_41 hl (k := 2) rfl (by rfl) (by decide) rfl (fun ls hl => ?_)
            refine lv_goto (tgt := 15) hx hb dX1_seek_44 (by decide) ?_
            exact ih15 (x2 + 1) x2 u3 _ _ _ hP hD hS (lv_sub hl [1, 2, 0] rfl) hf
  unfold wp_X1_seek at hf
  refine lv_aload_n hx hb dX1_seek_0 rfl (lv_at hl 0 rfl) ?_
  refine va_get (D := (dC, dI)) (ci := 1) (v := .int v_this_known) (C := RX1) (T := TX1) (N := 3) hx hb hts inX1 hown hK hP 0 rfl rfl 0 (by decide) lk1 (fun _ h9 => h9) rfl dX1_seek_1 ?_
  refine lv_if_eq (tgt := 8) hx hb dX1_seek_4 (by decide) (fun c1 => ?_) (fun c1 => ?_)
  · replace hf := hf.1 c1
    refine lv_aload_n hx hb dX1_seek_8 rfl (lv_at hl 0 rfl) ?_
    refine lv_iconst (v := 0) hx hb dX1_seek_9 (by decide) ?_
    refine va_put (D := (dC, dI)) (ci := 1) (v := .int 0) (ty := .int) (C := RX1) (T := TX1) (N := 3) hx hb hts inX1 tyX1 tyX1_ok nmX1 hown hK hP hD hS 0 rfl rfl 1 (by decide) lk2 (fun _ h9 => h9) rfl (by decide +kernel) rfl rfl (Nat.le_of_ble_eq_true rfl) dX1_seek_10 (fun H locs hP hD hS => ?_)
    have hP : va_P (dC, dI) vwCl (zW_X1_seek cI cC cS q_this q_this_ring q_p1 q_p1_kinds q_p1_sets q_p1_readers q_p1_eighths q_p1_wishes q_p1_weights q_p1_stocks v_this_known 0 f_this_ring v_p1_words v_p1_roads f_p1_kinds f_p1_sets f_p1_readers f_p1_eighths f_p1_wishes) H := hP
    have hD : va_D A (zW_X1_seek cI cC cS q_this q_this_ring q_p1 q_p1_kinds q_p1_sets q_p1_readers q_p1_eighths q_p1_wishes q_p1_weights q_p1_stocks v_this_known 0 f_this_ring v_p1_words v_p1_roads f_p1_kinds f_p1_sets f_p1_readers f_p1_eighths f_p1_wishes) := hD
    refine lv_iconst (v := 1) hx hb dX1_seek_13 (by decide) ?_
    refine lv_istore_n (lv' := [(2, .int 1), (0, .ref q_this), (1, .ref q_p1)]) hx hb dX1_seek_14 rfl hl (by decide) rfl (fun ls hl => ?_)
    exact L15 v_this_known N 1 0 f_this_ring _ _ _ hP hD hS (lv_sub hl [1, 2, 0] rfl) hf
  · replace hf := hf.2 c1
    exact z_vret hx hb hr hlocks (v_this_known, v_this_places, f_this_ring) hf hK hP hD hS dX1_seek_7
def lp_X6_noteWithout_35 (N : Nat) (x1 : Int32) (x3 : Int32) (x4 : Int32) (Φ : (Nat → Int32) → Prop) : Nat → Int32 → (Nat → Int32) → Prop
  | 0, _, _ => False
  | n + 1, x5, f_this_saidWithout => 
    ((x3 ≤ x5 → Φ f_this_saidWithout) ∧
     (¬ (x3 ≤ x5) → ((((x4 >>> (x5 &&& 31)) &&& 1) = 0 → (vp_in x5 6 ∧ (vp_in x5 6 ∧ (lp_X6_noteWithout_35 N x1 x3 x4 Φ n) (x5 + 1) (upd f_this_saidWithout (Int32.toNatClampNeg x5) ((f_this_saidWithout (Int32.toNatClampNeg x5)) ||| (1 <<< (x1 &&& 31))))))) ∧
     (¬ (((x4 >>> (x5 &&& 31)) &&& 1) = 0) → (lp_X6_noteWithout_35 N x1 x3 x4 Φ n) (x5 + 1) f_this_saidWithout))))
def ex_X6_noteWithout_32 (N : Nat) (x1 : Int32) (x3 : Int32) (x4 : Int32) (f_this_saidWithout : Nat → Int32) (f_this_row : Nat → Int32) (Φ : (Nat → Int32) → Prop) : Prop := 
    lp_X6_noteWithout_35 N x1 x3 x4 Φ N 0 f_this_saidWithout
def lp_X6_noteWithout_6 (N : Nat) (x2 : Int32) (f_this_row : Nat → Int32) (Φ : (Nat → Int32) → Prop) (k32 : Int32 → Prop) : Nat → Int32 → Int32 → Prop
  | 0, _, _ => False
  | n + 1, x4, x5 => 
    ((x2 ≤ x5 → k32 x4) ∧
     (¬ (x2 ≤ x5) → (vp_in x5 5 ∧ (lp_X6_noteWithout_6 N x2 f_this_row Φ k32 n) (x4 ||| (1 <<< ((f_this_row (Int32.toNatClampNeg x5)) &&& 31))) (x5 + 1))))
def wp_X6_noteWithout (N : Nat) (x1 : Int32) (x2 : Int32) (x3 : Int32) (f_this_saidWithout : Nat → Int32) (f_this_row : Nat → Int32) (Φ : (Nat → Int32) → Prop) : Prop := 
    lp_X6_noteWithout_6 N x2 f_this_row Φ (fun x4h6 => ex_X6_noteWithout_32 N x1 x3 x4h6 f_this_saidWithout f_this_row Φ) N 0 0
abbrev zW_X6_noteWithout (cI cC cS : ClassId) (q_this : Nat) (q_this_saidWithout : Nat) (q_this_row : Nat) (q_this_fewest : Nat) (q_this_firsts : Nat) (q_this_counts : Nat) (v_this_kind : Int32) (v_this_known : Int32) (v_this_said : Int32) (f_this_saidWithout : Nat → Int32) (f_this_row : Nat → Int32) : va_W := [(q_this, .inr (5, [.int v_this_kind, .int v_this_known, .ref q_this_fewest, .ref q_this_firsts, .ref q_this_counts, .int v_this_said, .ref q_this_saidWithout, .ref q_this_row])),
  (q_this_saidWithout, .inl (cI, 6, .inl f_this_saidWithout)),
  (q_this_row, .inl (cI, 5, .inl f_this_row))]
abbrev zr_X6_noteWithout : Room := { frames := 0, cells := 0, slots := 0, locals := 0 }
set_option maxHeartbeats 4000000 in
set_option maxRecDepth 100000 in
theorem c_X6_noteWithout (l : Launch) (dC : Nat → ClassId) (dI : Nat → Nat → Nat) (cI cC cS : ClassId) (q_this : Nat) (q_this_saidWithout : Nat) (q_this_row : Nat) (q_this_fewest : Nat) (q_this_firsts : Nat) (q_this_counts : Nat) (sz : Nat) (v_this_kind : Int32) (v_this_known : Int32) (v_this_said : Int32) (f_this_saidWithout : Nat → Int32) (f_this_row : Nat → Int32) (x1 : Int32) (x2 : Int32) (x3 : Int32) (N : Nat) (Φ : (Nat → Int32) → Prop)  (hf : wp_X6_noteWithout N x1 x2 x3 f_this_saidWithout f_this_row Φ) : Met l yX6_noteWithout wsX6_noteWithout zr_X6_noteWithout (zPc (dC, dI) (zT cI cC cS) [.ref q_this, .int x1, .int x2, .int x3] sz (zW_X6_noteWithout cI cC cS q_this q_this_saidWithout q_this_row q_this_fewest q_this_firsts q_this_counts v_this_kind v_this_known v_this_said f_this_saidWithout f_this_row)) (zQv (dC, dI) (zT cI cC cS) (va_A (zW_X6_noteWithout cI cC cS q_this q_this_saidWithout q_this_row q_this_fewest q_this_firsts q_this_counts v_this_kind v_this_known v_this_said f_this_saidWithout f_this_row) sz) (fun (u : (Nat → Int32)) => Φ u) (fun u => (zW_X6_noteWithout cI cC cS q_this q_this_saidWithout q_this_row q_this_fewest q_this_firsts q_this_counts v_this_kind v_this_known v_this_said u f_this_row))) 0 0 (va_A (zW_X6_noteWithout cI cC cS q_this q_this_saidWithout q_this_row q_this_fewest q_this_firsts q_this_counts v_this_kind v_this_known v_this_said f_this_saidWithout f_this_row) sz) := by
  refine Met.ofW (cc := cX6_noteWithout) (maxL := 6) (ret := none) (by decide) rfl ?_
  intro p e s m args below meth c s₁ B hml hv
  obtain ⟨rfl, hsz, hP, hK, hD0⟩ := hv
  have hx := B.exec
  have hb := B.bytes
  have hr := B.returns
  have hts := atoms_spec (ws := wsX6_noteWithout) B.pre
  have hown : s.vm.findClass RX6 = some m.cls := findClass_of_methodNamed B.named
  have hlocks := B.notSynchronized
  subst hsz
  have hD := hD0.self (sz := s.heap.size)
  have hA : ∀ q : Nat, s.heap.size ≤ q → va_A (zW_X6_noteWithout cI cC cS q_this q_this_saidWithout q_this_row q_this_fewest q_this_firsts q_this_counts v_this_kind v_this_known v_this_said f_this_saidWithout f_this_row) s.heap.size q := fun q h => Or.inr h
  generalize va_A (zW_X6_noteWithout cI cC cS q_this q_this_saidWithout q_this_row q_this_fewest q_this_firsts q_this_counts v_this_kind v_this_known v_this_said f_this_saidWithout f_this_row) s.heap.size = A at hD hA ⊢
  have hS : va_S A s.heap s.heap [] := va_S.rf
  have hl := lv_entry ([.ref q_this, .int x1, .int x2, .int x3]) (n := 6) (Nat.le_of_ble_eq_true rfl)
  rw [lg_entry_eq]
  generalize (lg_sl ([.ref q_this, .int x1, .int x2, .int x3]) ++ List.replicate (6 - (lg_sl ([.ref q_this, .int x1, .int x2, .int x3])).length) Slot.unset).toArray = ls at hl ⊢
  have hl : lv_has ls 6 [(0, .ref q_this), (1, .int x1), (2, .int x2), (3, .int x3)] := hl
  have lk2 := hts (.fieldLink RX6 32 "ReadFromAnywhere$Survey" "saidWithout" "[I") (List.mem_of_getElem? (i := 2) rfl)
  have inX6 : ∀ w ∈ u_ws RX6 TX6 8, w ∈ wsX6_noteWithout := fun _ h => List.mem_cons_of_mem _ (List.mem_append_right _ h)
  have lk1 := hts (.fieldLink RX6 35 "ReadFromAnywhere$Survey" "row" "[I") (List.mem_of_getElem? (i := 1) rfl)
  have L35 : ∀ (x4 : Int32), ∀ (n35 : Nat) (x5 : Int32) (f_this_saidWithout : Nat → Int32), ∀ (H : Heap) (locs : List Loc) (ls : Array Slot), va_P (dC, dI) vwCl (zW_X6_noteWithout cI cC cS q_this q_this_saidWithout q_this_row q_this_fewest q_this_firsts q_this_counts v_this_kind v_this_known v_this_said f_this_saidWithout f_this_row) H → va_D A (zW_X6_noteWithout cI cC cS q_this q_this_saidWithout q_this_row q_this_fewest q_this_firsts q_this_counts v_this_kind v_this_known v_this_said f_this_saidWithout f_this_row) → va_S A s.heap H locs → lv_has ls 6 [(0, .ref q_this), (1, .int x1), (3, .int x3), (4, .int x4), (5, .int x5)] → lp_X6_noteWithout_35 N x1 x3 x4 Φ n35 x5 f_this_saidWithout → W p l e (headSpec wsX6_noteWithout zr_X6_noteWithout).room s m ([.ref q_this, .int x1, .int x2, .int x3] : List Value).toArray below meth c H locs 0 0 (MQ below (zQv (dC, dI) (zT cI cC cS) A (fun (u : (Nat → Int32)) => Φ u) (fun u => (zW_X6_noteWithout cI cC cS q_this q_this_saidWithout q_this_row q_this_fewest q_this_firsts q_this_counts v_this_kind v_this_known v_this_said u f_this_row))) ([.ref q_this, .int x1, .int x2, .int x3] : List Value).toArray s 0 0 A) (F0 m 35 ls []) := by
    intro x4
    intro n35
    induction n35 with
    | zero =>
      intro x5 f_this_saidWithout H locs ls hP hD hS hl hf
      exact absurd hf (by rw [lp_X6_noteWithout_35]; exact id)
    | succ n35 ih35 =>
      intro x5 f_this_saidWithout H locs ls hP hD hS hl hf
      rw [lp_X6_noteWithout_35] at hf
      refine lv_iload hx hb dX6_noteWithout_35 (lv_at hl 4 rfl) ?_
      refine lv_iload_n hx hb dX6_noteWithout_37 rfl (lv_at hl 2 rfl) ?_
      refine lv_icmp_ge (tgt := 70) hx hb dX6_noteWithout_38 (by decide) (fun c1 => ?_) (fun c1 => ?_)
      · replace hf := hf.1 c1
        exact z_vret hx hb hr hlocks (f_this_saidWithout) hf hK hP hD hS dX6_noteWithout_70
      · replace hf := hf.2 c1
        refine lv_iload hx hb dX6_noteWithout_41 (lv_at hl 3 rfl) ?_
        refine lv_iload hx hb dX6_noteWithout_43 (lv_at hl 4 rfl) ?_
        refine lv_ishr hx hb dX6_noteWithout_45 ?_
        refine lv_iconst (v := 1) hx hb dX6_noteWithout_46 (by decide) ?_
        refine lv_iand hx hb dX6_noteWithout_47 ?_
        refine lv_if_ne (tgt := 64) hx hb dX6_noteWithout_48 (by decide) (fun c2 => ?_) (fun c2 => ?_)
        · replace hf := hf.2 c2
          refine lv_iinc (v := (x5 + 1)) (lv' := [(5, .int (x5 + 1)), (0, .ref q_this), (1, .int x1), (3, .int x3), (4, .int x4)]) hx hb dX6_noteWithout_64 hl (k := 4) rfl (by rfl) (by decide) rfl (fun ls hl => ?_)
          refine lv_goto (tgt := 35) hx hb dX6_noteWithout_67 (by decide) ?_
          exact ih35 (x5 + 1) f_this_saidWithout _ _ _ hP hD hS (lv_sub hl [1, 2, 3, 4, 0] rfl) hf
        · replace hf := hf.1 c2
          refine lv_aload_n hx hb dX6_noteWithout_51 rfl (lv_at hl 0 rfl) ?_
          refine va_get (D := (dC, dI)) (ci := 5) (v := .ref q_this_saidWithout) (C := RX6) (T := TX6) (N := 8) hx hb hts inX6 hown hK hP 0 rfl rfl 6 (by decide) lk2 (fun _ h9 => h9) rfl dX6_noteWithout_52 ?_
          refine lv_iload hx hb dX6_noteWithout_55 (lv_at hl 4 rfl) ?_
          refine lv_dup2_11 hx hb dX6_noteWithout_57 rfl rfl ?_
          refine va_iald hx hb hK hP 1 0 rfl rfl hf.1 dX6_noteWithout_58 ?_
          replace hf := hf.2
          refine lv_iconst (v := 1) hx hb dX6_noteWithout_59 (by decide) ?_
          refine lv_iload_n hx hb dX6_noteWithout_60 rfl (lv_at hl 1 rfl) ?_
          refine lv_ishl hx hb dX6_noteWithout_61 ?_
          refine lv_ior hx hb dX6_noteWithout_62 ?_
          refine va_iast hx hb hK hP hD hS 1 0 rfl rfl hf.1 dX6_noteWithout_63 (fun H locs hP hD hS => ?_)
          replace hf := hf.2
          have hP : va_P (dC, dI) vwCl (zW_X6_noteWithout cI cC cS q_this q_this_saidWithout q_this_row q_this_fewest q_this_firsts q_this_counts v_this_kind v_this_known v_this_said (upd f_this_saidWithout (Int32.toNatClampNeg x5) ((f_this_saidWithout (Int32.toNatClampNeg x5)) ||| (1 <<< (x1 &&& 31)))) f_this_row) H := hP
          have hD : va_D A (zW_X6_noteWithout cI cC cS q_this q_this_saidWithout q_this_row q_this_fewest q_this_firsts q_this_counts v_this_kind v_this_known v_this_said (upd f_this_saidWithout (Int32.toNatClampNeg x5) ((f_this_saidWithout (Int32.toNatClampNeg x5)) ||| (1 <<< (x1 &&& 31)))) f_this_row) := hD
          refine lv_iinc (v := (x5 + 1)) (lv' := [(5, .int (x5 + 1)), (0, .ref q_this), (1, .int x1), (3, .int x3), (4, .int x4)]) hx hb dX6_noteWithout_64 hl (k := 4) rfl (by rfl) (by decide) rfl (fun ls hl => ?_)
          refine lv_goto (tgt := 35) hx hb dX6_noteWithout_67 (by decide) ?_
          exact ih35 (x5 + 1) (upd f_this_saidWithout (Int32.toNatClampNeg x5) ((f_this_saidWithout (Int32.toNatClampNeg x5)) ||| (1 <<< (x1 &&& 31)))) _ _ _ hP hD hS (lv_sub hl [1, 2, 3, 4, 0] rfl) hf
  have E32 : ∀ (x4 : Int32) (f_this_saidWithout : Nat → Int32), ∀ (H : Heap) (locs : List Loc) (ls : Array Slot), va_P (dC, dI) vwCl (zW_X6_noteWithout cI cC cS q_this q_this_saidWithout q_this_row q_this_fewest q_this_firsts q_this_counts v_this_kind v_this_known v_this_said f_this_saidWithout f_this_row) H → va_D A (zW_X6_noteWithout cI cC cS q_this q_this_saidWithout q_this_row q_this_fewest q_this_firsts q_this_counts v_this_kind v_this_known v_this_said f_this_saidWithout f_this_row) → va_S A s.heap H locs → lv_has ls 6 [(0, .ref q_this), (1, .int x1), (3, .int x3), (4, .int x4)] → ex_X6_noteWithout_32 N x1 x3 x4 f_this_saidWithout f_this_row Φ → W p l e (headSpec wsX6_noteWithout zr_X6_noteWithout).room s m ([.ref q_this, .int x1, .int x2, .int x3] : List Value).toArray below meth c H locs 0 0 (MQ below (zQv (dC, dI) (zT cI cC cS) A (fun (u : (Nat → Int32)) => Φ u) (fun u => (zW_X6_noteWithout cI cC cS q_this q_this_saidWithout q_this_row q_this_fewest q_this_firsts q_this_counts v_this_kind v_this_known v_this_said u f_this_row))) ([.ref q_this, .int x1, .int x2, .int x3] : List Value).toArray s 0 0 A) (F0 m 32 ls []) := by
    intro x4 f_this_saidWithout H locs ls hP hD hS hl hf
    unfold ex_X6_noteWithout_32 at hf
    refine lv_iconst (v := 0) hx hb dX6_noteWithout_32 (by decide) ?_
    refine lv_istore (lv' := [(5, .int 0), (0, .ref q_this), (1, .int x1), (3, .int x3), (4, .int x4)]) hx hb dX6_noteWithout_33 hl (by decide) rfl (fun ls hl => ?_)
    exact L35 x4 N 0 f_this_saidWithout _ _ _ hP hD hS (lv_sub hl [1, 2, 3, 4, 0] rfl) hf
  have L6 : ∀ (f_this_saidWithout : Nat → Int32), ∀ (n6 : Nat) (x4 : Int32) (x5 : Int32), ∀ (H : Heap) (locs : List Loc) (ls : Array Slot), va_P (dC, dI) vwCl (zW_X6_noteWithout cI cC cS q_this q_this_saidWithout q_this_row q_this_fewest q_this_firsts q_this_counts v_this_kind v_this_known v_this_said f_this_saidWithout f_this_row) H → va_D A (zW_X6_noteWithout cI cC cS q_this q_this_saidWithout q_this_row q_this_fewest q_this_firsts q_this_counts v_this_kind v_this_known v_this_said f_this_saidWithout f_this_row) → va_S A s.heap H locs → lv_has ls 6 [(0, .ref q_this), (1, .int x1), (2, .int x2), (3, .int x3), (4, .int x4), (5, .int x5)] → lp_X6_noteWithout_6 N x2 f_this_row Φ (fun x4h6 => ex_X6_noteWithout_32 N x1 x3 x4h6 f_this_saidWithout f_this_row Φ) n6 x4 x5 → W p l e (headSpec wsX6_noteWithout zr_X6_noteWithout).room s m ([.ref q_this, .int x1, .int x2, .int x3] : List Value).toArray below meth c H locs 0 0 (MQ below (zQv (dC, dI) (zT cI cC cS) A (fun (u : (Nat → Int32)) => Φ u) (fun u => (zW_X6_noteWithout cI cC cS q_this q_this_saidWithout q_this_row q_this_fewest q_this_firsts q_this_counts v_this_kind v_this_known v_this_said u f_this_row))) ([.ref q_this, .int x1, .int x2, .int x3] : List Value).toArray s 0 0 A) (F0 m 6 ls []) := by
    intro f_this_saidWithout
    intro n6
    induction n6 with
    | zero =>
      intro x4 x5 H locs ls hP hD hS hl hf
      exact absurd hf (by rw [lp_X6_noteWithout_6]; exact id)
    | succ n6 ih6 =>
      intro x4 x5 H locs ls hP hD hS hl hf
      rw [lp_X6_noteWithout_6] at hf
      refine lv_iload hx hb dX6_noteWithout_6 (lv_at hl 5 rfl) ?_
      refine lv_iload_n hx hb dX6_noteWithout_8 rfl (lv_at hl 2 rfl) ?_
      refine lv_icmp_ge (tgt := 32) hx hb dX6_noteWithout_9 (by decide) (fun c3 => ?_) (fun c3 => ?_)
      · replace hf := hf.1 c3
        exact E32 x4 f_this_saidWithout _ _ _ hP hD hS (lv_sub hl [0, 1, 3, 4] rfl) hf
      · replace hf := hf.2 c3
        refine lv_iload hx hb dX6_noteWithout_12 (lv_at hl 4 rfl) ?_
        refine lv_iconst (v := 1) hx hb dX6_noteWithout_14 (by decide) ?_
        refine lv_aload_n hx hb dX6_noteWithout_15 rfl (lv_at hl 0 rfl) ?_
        refine va_get (D := (dC, dI)) (ci := 5) (v := .ref q_this_row) (C := RX6) (T := TX6) (N := 8) hx hb hts inX6 hown hK hP 0 rfl rfl 7 (by decide) lk1 (fun _ h9 => h9) rfl dX6_noteWithout_16 ?_
        refine lv_iload hx hb dX6_noteWithout_19 (lv_at hl 5 rfl) ?_
        refine va_iald hx hb hK hP 2 0 rfl rfl hf.1 dX6_noteWithout_21 ?_
        replace hf := hf.2
        refine lv_ishl hx hb dX6_noteWithout_22 ?_
        refine lv_ior hx hb dX6_noteWithout_23 ?_
        refine lv_istore (lv' := [(4, .int (x4 ||| (1 <<< ((f_this_row (Int32.toNatClampNeg x5)) &&& 31)))), (0, .ref q_this), (1, .int x1), (2, .int x2), (3, .int x3), (5, .int x5)]) hx hb dX6_noteWithout_24 hl (by decide) rfl (fun ls hl => ?_)
        refine lv_iinc (v := (x5 + 1)) (lv' := [(5, .int (x5 + 1)), (4, .int (x4 ||| (1 <<< ((f_this_row (Int32.toNatClampNeg x5)) &&& 31)))), (0, .ref q_this), (1, .int x1), (2, .int x2), (3, .int x3)]) hx hb dX6_noteWithout_26 hl (k := 5) rfl (by rfl) (by decide) rfl (fun ls hl => ?_)
        refine lv_goto (tgt := 6) hx hb dX6_noteWithout_29 (by decide) ?_
        exact ih6 (x4 ||| (1 <<< ((f_this_row (Int32.toNatClampNeg x5)) &&& 31))) (x5 + 1) _ _ _ hP hD hS (lv_sub hl [2, 3, 4, 5, 1, 0] rfl) hf
  unfold wp_X6_noteWithout at hf
  refine lv_iconst (v := 0) hx hb dX6_noteWithout_0 (by decide) ?_
  refine lv_istore (lv' := [(4, .int 0), (0, .ref q_this), (1, .int x1), (2, .int x2), (3, .int x3)]) hx hb dX6_noteWithout_1 hl (by decide) rfl (fun ls hl => ?_)
  refine lv_iconst (v := 0) hx hb dX6_noteWithout_3 (by decide) ?_
  refine lv_istore (lv' := [(5, .int 0), (4, .int 0), (0, .ref q_this), (1, .int x1), (2, .int x2), (3, .int x3)]) hx hb dX6_noteWithout_4 hl (by decide) rfl (fun ls hl => ?_)
  exact L6 f_this_saidWithout N 0 0 _ _ _ hP hD hS (lv_sub hl [2, 3, 4, 5, 1, 0] rfl) hf
def wp_X6_note (N : Nat) (x1 : Int32) (x2 : Int32) (x3 : Int32) (v_this_said : Int32) (f_this_fewest : Nat → Int32) (f_this_firsts : Nat → Int32) (f_this_counts : Nat → Int32) (f_this_saidWithout : Nat → Int32) (f_this_row : Nat → Int32) (Φ : Int32 → (Nat → Int32) → (Nat → Int32) → (Nat → Int32) → (Nat → Int32) → Prop) : Prop := 
    (vp_in x2 6 ∧ (vp_in x2 6 ∧ (vp_in x1 16 ∧ (((f_this_fewest (Int32.toNatClampNeg x1)) = 0 → (vp_in x1 16 ∧ (¬ ((x1 * 5) < 0) ∧ (¬ (x2 < 0) ∧ ((Int32.toNatClampNeg 0) + (Int32.toNatClampNeg x2) ≤ 5 ∧ ((Int32.toNatClampNeg (x1 * 5)) + (Int32.toNatClampNeg x2) ≤ 80 ∧ ((4 < x2 → Φ v_this_said (upd f_this_fewest (Int32.toNatClampNeg x1) x2) (va_cpy f_this_row f_this_firsts (Int32.toNatClampNeg 0) (Int32.toNatClampNeg (x1 * 5)) (Int32.toNatClampNeg x2)) (upd f_this_counts (Int32.toNatClampNeg x2) ((f_this_counts (Int32.toNatClampNeg x2)) + 1)) f_this_saidWithout) ∧
     (¬ (4 < x2) → wp_X6_noteWithout N x1 x2 x3 f_this_saidWithout f_this_row (fun o5_0 => 
     Φ (v_this_said ||| (1 <<< (x1 &&& 31))) (upd f_this_fewest (Int32.toNatClampNeg x1) x2) (va_cpy f_this_row f_this_firsts (Int32.toNatClampNeg 0) (Int32.toNatClampNeg (x1 * 5)) (Int32.toNatClampNeg x2)) (upd f_this_counts (Int32.toNatClampNeg x2) ((f_this_counts (Int32.toNatClampNeg x2)) + 1)) o5_0))))))))) ∧
     (¬ ((f_this_fewest (Int32.toNatClampNeg x1)) = 0) → ((4 < x2 → Φ v_this_said f_this_fewest f_this_firsts (upd f_this_counts (Int32.toNatClampNeg x2) ((f_this_counts (Int32.toNatClampNeg x2)) + 1)) f_this_saidWithout) ∧
     (¬ (4 < x2) → wp_X6_noteWithout N x1 x2 x3 f_this_saidWithout f_this_row (fun o3_0 => 
     Φ (v_this_said ||| (1 <<< (x1 &&& 31))) f_this_fewest f_this_firsts (upd f_this_counts (Int32.toNatClampNeg x2) ((f_this_counts (Int32.toNatClampNeg x2)) + 1)) o3_0))))))))
abbrev zW_X6_note (cI cC cS : ClassId) (q_this : Nat) (q_this_fewest : Nat) (q_this_firsts : Nat) (q_this_counts : Nat) (q_this_saidWithout : Nat) (q_this_row : Nat) (v_this_kind : Int32) (v_this_known : Int32) (v_this_said : Int32) (f_this_fewest : Nat → Int32) (f_this_firsts : Nat → Int32) (f_this_counts : Nat → Int32) (f_this_saidWithout : Nat → Int32) (f_this_row : Nat → Int32) : va_W := [(q_this, .inr (5, [.int v_this_kind, .int v_this_known, .ref q_this_fewest, .ref q_this_firsts, .ref q_this_counts, .int v_this_said, .ref q_this_saidWithout, .ref q_this_row])),
  (q_this_fewest, .inl (cI, 16, .inl f_this_fewest)),
  (q_this_firsts, .inl (cI, 80, .inl f_this_firsts)),
  (q_this_counts, .inl (cI, 6, .inl f_this_counts)),
  (q_this_saidWithout, .inl (cI, 6, .inl f_this_saidWithout)),
  (q_this_row, .inl (cI, 5, .inl f_this_row))]
abbrev zr_X6_note : Room := { frames := 1, cells := 0, slots := 0, locals := 60 }
set_option maxHeartbeats 4000000 in
set_option maxRecDepth 100000 in
theorem c_X6_note (l : Launch) (dC : Nat → ClassId) (dI : Nat → Nat → Nat) (cI cC cS : ClassId) (q_this : Nat) (q_this_fewest : Nat) (q_this_firsts : Nat) (q_this_counts : Nat) (q_this_saidWithout : Nat) (q_this_row : Nat) (sz : Nat) (v_this_kind : Int32) (v_this_known : Int32) (v_this_said : Int32) (f_this_fewest : Nat → Int32) (f_this_firsts : Nat → Int32) (f_this_counts : Nat → Int32) (f_this_saidWithout : Nat → Int32) (f_this_row : Nat → Int32) (x1 : Int32) (x2 : Int32) (x3 : Int32) (N : Nat) (Φ : Int32 → (Nat → Int32) → (Nat → Int32) → (Nat → Int32) → (Nat → Int32) → Prop)  (hf : wp_X6_note N x1 x2 x3 v_this_said f_this_fewest f_this_firsts f_this_counts f_this_saidWithout f_this_row Φ) : Met l yX6_note wsX6_note zr_X6_note (zPc (dC, dI) (zT cI cC cS) [.ref q_this, .int x1, .int x2, .int x3] sz (zW_X6_note cI cC cS q_this q_this_fewest q_this_firsts q_this_counts q_this_saidWithout q_this_row v_this_kind v_this_known v_this_said f_this_fewest f_this_firsts f_this_counts f_this_saidWithout f_this_row)) (zQv (dC, dI) (zT cI cC cS) (va_A (zW_X6_note cI cC cS q_this q_this_fewest q_this_firsts q_this_counts q_this_saidWithout q_this_row v_this_kind v_this_known v_this_said f_this_fewest f_this_firsts f_this_counts f_this_saidWithout f_this_row) sz) (fun (u : (Int32) × (Nat → Int32) × (Nat → Int32) × (Nat → Int32) × (Nat → Int32)) => Φ u.1 u.2.1 u.2.2.1 u.2.2.2.1 u.2.2.2.2) (fun u => (zW_X6_note cI cC cS q_this q_this_fewest q_this_firsts q_this_counts q_this_saidWithout q_this_row v_this_kind v_this_known u.1 u.2.1 u.2.2.1 u.2.2.2.1 u.2.2.2.2 f_this_row))) 0 0 (va_A (zW_X6_note cI cC cS q_this q_this_fewest q_this_firsts q_this_counts q_this_saidWithout q_this_row v_this_kind v_this_known v_this_said f_this_fewest f_this_firsts f_this_counts f_this_saidWithout f_this_row) sz) := by
  refine Met.ofW (cc := cX6_note) (maxL := 4) (ret := none) (by decide) rfl ?_
  intro p e s m args below meth c s₁ B hml hv
  obtain ⟨rfl, hsz, hP, hK, hD0⟩ := hv
  have hx := B.exec
  have hb := B.bytes
  have hr := B.returns
  have hts := atoms_spec (ws := wsX6_note) B.pre
  have hown : s.vm.findClass RX6 = some m.cls := findClass_of_methodNamed B.named
  have hlocks := B.notSynchronized
  subst hsz
  have hD := hD0.self (sz := s.heap.size)
  have hA : ∀ q : Nat, s.heap.size ≤ q → va_A (zW_X6_note cI cC cS q_this q_this_fewest q_this_firsts q_this_counts q_this_saidWithout q_this_row v_this_kind v_this_known v_this_said f_this_fewest f_this_firsts f_this_counts f_this_saidWithout f_this_row) s.heap.size q := fun q h => Or.inr h
  generalize va_A (zW_X6_note cI cC cS q_this q_this_fewest q_this_firsts q_this_counts q_this_saidWithout q_this_row v_this_kind v_this_known v_this_said f_this_fewest f_this_firsts f_this_counts f_this_saidWithout f_this_row) s.heap.size = A at hD hA ⊢
  have hS : va_S A s.heap s.heap [] := va_S.rf
  have hl := lv_entry ([.ref q_this, .int x1, .int x2, .int x3]) (n := 4) (Nat.le_of_ble_eq_true rfl)
  rw [lg_entry_eq]
  generalize (lg_sl ([.ref q_this, .int x1, .int x2, .int x3]) ++ List.replicate (4 - (lg_sl ([.ref q_this, .int x1, .int x2, .int x3])).length) Slot.unset).toArray = ls at hl ⊢
  have hl : lv_has ls 4 [(0, .ref q_this), (1, .int x1), (2, .int x2), (3, .int x3)] := hl
  have lk1 := hts (.fieldLink RX6 26 "ReadFromAnywhere$Survey" "counts" "[I") (List.mem_of_getElem? (i := 1) rfl)
  have inX6 : ∀ w ∈ u_ws RX6 TX6 8, w ∈ wsX6_note := fun _ h => List.mem_cons_of_mem _ (List.mem_append_right _ h)
  have lk2 := hts (.fieldLink RX6 19 "ReadFromAnywhere$Survey" "fewest" "[I") (List.mem_of_getElem? (i := 2) rfl)
  have lk9 := hts (.fieldLink RX6 29 "ReadFromAnywhere$Survey" "said" "I") (List.mem_of_getElem? (i := 9) rfl)
  have lk3 := hts (.fieldLink RX6 35 "ReadFromAnywhere$Survey" "row" "[I") (List.mem_of_getElem? (i := 3) rfl)
  have lk4 := hts (.fieldLink RX6 23 "ReadFromAnywhere$Survey" "firsts" "[I") (List.mem_of_getElem? (i := 4) rfl)
  have lk6 := hts (.native arraycopyName) (List.mem_of_getElem? (i := 6) rfl)
  have lk7 := hts (.static arraycopyName) (List.mem_of_getElem? (i := 7) rfl)
  have lk8 := hts (.initialized "java/lang/System") (List.mem_of_getElem? (i := 8) rfl)
  have lk5 := hts (.methodLink RX6 78 arraycopyName) (List.mem_of_getElem? (i := 5) rfl)
  unfold wp_X6_note at hf
  refine lv_aload_n hx hb dX6_note_0 rfl (lv_at hl 0 rfl) ?_
  refine va_get (D := (dC, dI)) (ci := 5) (v := .ref q_this_counts) (C := RX6) (T := TX6) (N := 8) hx hb hts inX6 hown hK hP 0 rfl rfl 4 (by decide) lk1 (fun _ h9 => h9) rfl dX6_note_1 ?_
  refine lv_iload_n hx hb dX6_note_4 rfl (lv_at hl 2 rfl) ?_
  refine lv_dup2_11 hx hb dX6_note_5 rfl rfl ?_
  refine va_iald hx hb hK hP 3 0 rfl rfl hf.1 dX6_note_6 ?_
  replace hf := hf.2
  refine lv_iconst (v := 1) hx hb dX6_note_7 (by decide) ?_
  refine lv_iadd hx hb dX6_note_8 ?_
  refine va_iast hx hb hK hP hD hS 3 0 rfl rfl hf.1 dX6_note_9 (fun H locs hP hD hS => ?_)
  replace hf := hf.2
  have hP : va_P (dC, dI) vwCl (zW_X6_note cI cC cS q_this q_this_fewest q_this_firsts q_this_counts q_this_saidWithout q_this_row v_this_kind v_this_known v_this_said f_this_fewest f_this_firsts (upd f_this_counts (Int32.toNatClampNeg x2) ((f_this_counts (Int32.toNatClampNeg x2)) + 1)) f_this_saidWithout f_this_row) H := hP
  have hD : va_D A (zW_X6_note cI cC cS q_this q_this_fewest q_this_firsts q_this_counts q_this_saidWithout q_this_row v_this_kind v_this_known v_this_said f_this_fewest f_this_firsts (upd f_this_counts (Int32.toNatClampNeg x2) ((f_this_counts (Int32.toNatClampNeg x2)) + 1)) f_this_saidWithout f_this_row) := hD
  refine lv_aload_n hx hb dX6_note_10 rfl (lv_at hl 0 rfl) ?_
  refine va_get (D := (dC, dI)) (ci := 5) (v := .ref q_this_fewest) (C := RX6) (T := TX6) (N := 8) hx hb hts inX6 hown hK hP 0 rfl rfl 2 (by decide) lk2 (fun _ h9 => h9) rfl dX6_note_11 ?_
  refine lv_iload_n hx hb dX6_note_14 rfl (lv_at hl 1 rfl) ?_
  refine va_iald hx hb hK hP 1 0 rfl rfl hf.1 dX6_note_15 ?_
  replace hf := hf.2
  refine lv_if_ne (tgt := 42) hx hb dX6_note_16 (by decide) (fun c1 => ?_) (fun c1 => ?_)
  · replace hf := hf.2 c1
    refine lv_iload_n hx hb dX6_note_42 rfl (lv_at hl 2 rfl) ?_
    refine lv_iconst (v := 4) hx hb dX6_note_43 (by decide) ?_
    refine lv_icmp_gt (tgt := 66) hx hb dX6_note_44 (by decide) (fun c2 => ?_) (fun c2 => ?_)
    · replace hf := hf.1 c2
      exact z_vret hx hb hr hlocks (v_this_said, f_this_fewest, f_this_firsts, (upd f_this_counts (Int32.toNatClampNeg x2) ((f_this_counts (Int32.toNatClampNeg x2)) + 1)), f_this_saidWithout) hf hK hP hD hS dX6_note_66
    · replace hf := hf.2 c2
      refine lv_aload_n hx hb dX6_note_47 rfl (lv_at hl 0 rfl) ?_
      refine lv_dup hx hb dX6_note_48 rfl ?_
      refine va_get (D := (dC, dI)) (ci := 5) (v := .int v_this_said) (C := RX6) (T := TX6) (N := 8) hx hb hts inX6 hown hK hP 0 rfl rfl 5 (by decide) lk9 (fun _ h9 => h9) rfl dX6_note_49 ?_
      refine lv_iconst (v := 1) hx hb dX6_note_52 (by decide) ?_
      refine lv_iload_n hx hb dX6_note_53 rfl (lv_at hl 1 rfl) ?_
      refine lv_ishl hx hb dX6_note_54 ?_
      refine lv_ior hx hb dX6_note_55 ?_
      refine va_put (D := (dC, dI)) (ci := 5) (v := .int (v_this_said ||| (1 <<< (x1 &&& 31)))) (ty := .int) (C := RX6) (T := TX6) (N := 8) hx hb hts inX6 tyX6 tyX6_ok nmX6 hown hK hP hD hS 0 rfl rfl 5 (by decide) lk9 (fun _ h9 => h9) rfl (by decide +kernel) rfl rfl (Nat.le_of_ble_eq_true rfl) dX6_note_56 (fun H locs hP hD hS => ?_)
      have hP : va_P (dC, dI) vwCl (zW_X6_note cI cC cS q_this q_this_fewest q_this_firsts q_this_counts q_this_saidWithout q_this_row v_this_kind v_this_known (v_this_said ||| (1 <<< (x1 &&& 31))) f_this_fewest f_this_firsts (upd f_this_counts (Int32.toNatClampNeg x2) ((f_this_counts (Int32.toNatClampNeg x2)) + 1)) f_this_saidWithout f_this_row) H := hP
      have hD : va_D A (zW_X6_note cI cC cS q_this q_this_fewest q_this_firsts q_this_counts q_this_saidWithout q_this_row v_this_kind v_this_known (v_this_said ||| (1 <<< (x1 &&& 31))) f_this_fewest f_this_firsts (upd f_this_counts (Int32.toNatClampNeg x2) ((f_this_counts (Int32.toNatClampNeg x2)) + 1)) f_this_saidWithout f_this_row) := hD
      refine lv_aload_n hx hb dX6_note_59 rfl (lv_at hl 0 rfl) ?_
      refine lv_iload_n hx hb dX6_note_60 rfl (lv_at hl 1 rfl) ?_
      refine lv_iload_n hx hb dX6_note_61 rfl (lv_at hl 2 rfl) ?_
      refine lv_iload_n hx hb dX6_note_62 rfl (lv_at hl 3 rfl) ?_
      refine z_Vv (n := 3) (As := [.int x1, .int x2, .int x3]) (rest := []) ⟨hx, hb, hml, hown, hts⟩ (c_X6_noteWithout l dC dI cI cC cS q_this q_this_saidWithout q_this_row q_this_fewest q_this_firsts q_this_counts _ v_this_kind v_this_known (v_this_said ||| (1 <<< (x1 &&& 31))) f_this_saidWithout f_this_row x1 x2 x3 N _  hf) gX6_note_X6_noteWithout rfl rfl rfl (by decide +kernel) ⟨Nat.le_of_ble_eq_true rfl, Nat.le_of_ble_eq_true rfl⟩ hK hP hD hS hA 0 5 rfl rfl rfl hl.1 rfl (Nat.le_of_ble_eq_true rfl) dX6_note_63 ⟨Nat.zero_le _, Nat.zero_le _⟩ [0, 4, 5] [1, 2, 3] (([(q_this_fewest, .inl (cI, 16, .inl f_this_fewest)), (q_this_firsts, .inl (cI, 80, .inl f_this_firsts)), (q_this_counts, .inl (cI, 6, .inl (upd f_this_counts (Int32.toNatClampNeg x2) ((f_this_counts (Int32.toNatClampNeg x2)) + 1))))] : va_W)) rfl rfl (by decide) (by decide) (by decide) (fun u => (zW_X6_note cI cC cS q_this q_this_fewest q_this_firsts q_this_counts q_this_saidWithout q_this_row v_this_kind v_this_known (v_this_said ||| (1 <<< (x1 &&& 31))) f_this_fewest f_this_firsts (upd f_this_counts (Int32.toNatClampNeg x2) ((f_this_counts (Int32.toNatClampNeg x2)) + 1)) u f_this_row)) [3, 0, 1, 2, 4, 5] (fun u => rfl) (by decide) (fun u3 H locs hf hP hD hS => ?_)
      have hP : va_P (dC, dI) vwCl (zW_X6_note cI cC cS q_this q_this_fewest q_this_firsts q_this_counts q_this_saidWithout q_this_row v_this_kind v_this_known (v_this_said ||| (1 <<< (x1 &&& 31))) f_this_fewest f_this_firsts (upd f_this_counts (Int32.toNatClampNeg x2) ((f_this_counts (Int32.toNatClampNeg x2)) + 1)) u3 f_this_row) H := hP
      have hD : va_D A (zW_X6_note cI cC cS q_this q_this_fewest q_this_firsts q_this_counts q_this_saidWithout q_this_row v_this_kind v_this_known (v_this_said ||| (1 <<< (x1 &&& 31))) f_this_fewest f_this_firsts (upd f_this_counts (Int32.toNatClampNeg x2) ((f_this_counts (Int32.toNatClampNeg x2)) + 1)) u3 f_this_row) := hD
      exact z_vret hx hb hr hlocks ((v_this_said ||| (1 <<< (x1 &&& 31))), f_this_fewest, f_this_firsts, (upd f_this_counts (Int32.toNatClampNeg x2) ((f_this_counts (Int32.toNatClampNeg x2)) + 1)), u3) hf hK hP hD hS dX6_note_66
  · replace hf := hf.1 c1
    refine lv_aload_n hx hb dX6_note_19 rfl (lv_at hl 0 rfl) ?_
    refine va_get (D := (dC, dI)) (ci := 5) (v := .ref q_this_fewest) (C := RX6) (T := TX6) (N := 8) hx hb hts inX6 hown hK hP 0 rfl rfl 2 (by decide) lk2 (fun _ h9 => h9) rfl dX6_note_20 ?_
    refine lv_iload_n hx hb dX6_note_23 rfl (lv_at hl 1 rfl) ?_
    refine lv_iload_n hx hb dX6_note_24 rfl (lv_at hl 2 rfl) ?_
    refine va_iast hx hb hK hP hD hS 1 0 rfl rfl hf.1 dX6_note_25 (fun H locs hP hD hS => ?_)
    replace hf := hf.2
    have hP : va_P (dC, dI) vwCl (zW_X6_note cI cC cS q_this q_this_fewest q_this_firsts q_this_counts q_this_saidWithout q_this_row v_this_kind v_this_known v_this_said (upd f_this_fewest (Int32.toNatClampNeg x1) x2) f_this_firsts (upd f_this_counts (Int32.toNatClampNeg x2) ((f_this_counts (Int32.toNatClampNeg x2)) + 1)) f_this_saidWithout f_this_row) H := hP
    have hD : va_D A (zW_X6_note cI cC cS q_this q_this_fewest q_this_firsts q_this_counts q_this_saidWithout q_this_row v_this_kind v_this_known v_this_said (upd f_this_fewest (Int32.toNatClampNeg x1) x2) f_this_firsts (upd f_this_counts (Int32.toNatClampNeg x2) ((f_this_counts (Int32.toNatClampNeg x2)) + 1)) f_this_saidWithout f_this_row) := hD
    refine lv_aload_n hx hb dX6_note_26 rfl (lv_at hl 0 rfl) ?_
    refine va_get (D := (dC, dI)) (ci := 5) (v := .ref q_this_row) (C := RX6) (T := TX6) (N := 8) hx hb hts inX6 hown hK hP 0 rfl rfl 7 (by decide) lk3 (fun _ h9 => h9) rfl dX6_note_27 ?_
    refine lv_iconst (v := 0) hx hb dX6_note_30 (by decide) ?_
    refine lv_aload_n hx hb dX6_note_31 rfl (lv_at hl 0 rfl) ?_
    refine va_get (D := (dC, dI)) (ci := 5) (v := .ref q_this_firsts) (C := RX6) (T := TX6) (N := 8) hx hb hts inX6 hown hK hP 0 rfl rfl 3 (by decide) lk4 (fun _ h9 => h9) rfl dX6_note_32 ?_
    refine lv_iload_n hx hb dX6_note_35 rfl (lv_at hl 1 rfl) ?_
    refine lv_iconst (v := 5) hx hb dX6_note_36 (by decide) ?_
    refine lv_imul hx hb dX6_note_37 ?_
    refine lv_iload_n hx hb dX6_note_38 rfl (lv_at hl 2 rfl) ?_
    refine va_copyi (ty := .int) (sp := 0) (dp := (x1 * 5)) (n := x2) hx hb (hml.trans hl.1.symm) hown lk5 lk6 lk7 lk8 hK hP hD hS 5 2 0 0 rfl rfl rfl rfl rfl (by decide) hf.1 hf.2.1 hf.2.2.1 hf.2.2.2.1 (fun _ _ => rfl) (Nat.le_of_ble_eq_true rfl) (Nat.le_of_ble_eq_true rfl) dX6_note_39 (fun H locs hP hD hS => ?_)
    replace hf := hf.2.2.2.2
    have hP : va_P (dC, dI) vwCl (zW_X6_note cI cC cS q_this q_this_fewest q_this_firsts q_this_counts q_this_saidWithout q_this_row v_this_kind v_this_known v_this_said (upd f_this_fewest (Int32.toNatClampNeg x1) x2) (va_cpy f_this_row f_this_firsts (Int32.toNatClampNeg 0) (Int32.toNatClampNeg (x1 * 5)) (Int32.toNatClampNeg x2)) (upd f_this_counts (Int32.toNatClampNeg x2) ((f_this_counts (Int32.toNatClampNeg x2)) + 1)) f_this_saidWithout f_this_row) H := hP
    have hD : va_D A (zW_X6_note cI cC cS q_this q_this_fewest q_this_firsts q_this_counts q_this_saidWithout q_this_row v_this_kind v_this_known v_this_said (upd f_this_fewest (Int32.toNatClampNeg x1) x2) (va_cpy f_this_row f_this_firsts (Int32.toNatClampNeg 0) (Int32.toNatClampNeg (x1 * 5)) (Int32.toNatClampNeg x2)) (upd f_this_counts (Int32.toNatClampNeg x2) ((f_this_counts (Int32.toNatClampNeg x2)) + 1)) f_this_saidWithout f_this_row) := hD
    refine lv_iload_n hx hb dX6_note_42 rfl (lv_at hl 2 rfl) ?_
    refine lv_iconst (v := 4) hx hb dX6_note_43 (by decide) ?_
    refine lv_icmp_gt (tgt := 66) hx hb dX6_note_44 (by decide) (fun c4 => ?_) (fun c4 => ?_)
    · replace hf := hf.1 c4
      exact z_vret hx hb hr hlocks (v_this_said, (upd f_this_fewest (Int32.toNatClampNeg x1) x2), (va_cpy f_this_row f_this_firsts (Int32.toNatClampNeg 0) (Int32.toNatClampNeg (x1 * 5)) (Int32.toNatClampNeg x2)), (upd f_this_counts (Int32.toNatClampNeg x2) ((f_this_counts (Int32.toNatClampNeg x2)) + 1)), f_this_saidWithout) hf hK hP hD hS dX6_note_66
    · replace hf := hf.2 c4
      refine lv_aload_n hx hb dX6_note_47 rfl (lv_at hl 0 rfl) ?_
      refine lv_dup hx hb dX6_note_48 rfl ?_
      refine va_get (D := (dC, dI)) (ci := 5) (v := .int v_this_said) (C := RX6) (T := TX6) (N := 8) hx hb hts inX6 hown hK hP 0 rfl rfl 5 (by decide) lk9 (fun _ h9 => h9) rfl dX6_note_49 ?_
      refine lv_iconst (v := 1) hx hb dX6_note_52 (by decide) ?_
      refine lv_iload_n hx hb dX6_note_53 rfl (lv_at hl 1 rfl) ?_
      refine lv_ishl hx hb dX6_note_54 ?_
      refine lv_ior hx hb dX6_note_55 ?_
      refine va_put (D := (dC, dI)) (ci := 5) (v := .int (v_this_said ||| (1 <<< (x1 &&& 31)))) (ty := .int) (C := RX6) (T := TX6) (N := 8) hx hb hts inX6 tyX6 tyX6_ok nmX6 hown hK hP hD hS 0 rfl rfl 5 (by decide) lk9 (fun _ h9 => h9) rfl (by decide +kernel) rfl rfl (Nat.le_of_ble_eq_true rfl) dX6_note_56 (fun H locs hP hD hS => ?_)
      have hP : va_P (dC, dI) vwCl (zW_X6_note cI cC cS q_this q_this_fewest q_this_firsts q_this_counts q_this_saidWithout q_this_row v_this_kind v_this_known (v_this_said ||| (1 <<< (x1 &&& 31))) (upd f_this_fewest (Int32.toNatClampNeg x1) x2) (va_cpy f_this_row f_this_firsts (Int32.toNatClampNeg 0) (Int32.toNatClampNeg (x1 * 5)) (Int32.toNatClampNeg x2)) (upd f_this_counts (Int32.toNatClampNeg x2) ((f_this_counts (Int32.toNatClampNeg x2)) + 1)) f_this_saidWithout f_this_row) H := hP
      have hD : va_D A (zW_X6_note cI cC cS q_this q_this_fewest q_this_firsts q_this_counts q_this_saidWithout q_this_row v_this_kind v_this_known (v_this_said ||| (1 <<< (x1 &&& 31))) (upd f_this_fewest (Int32.toNatClampNeg x1) x2) (va_cpy f_this_row f_this_firsts (Int32.toNatClampNeg 0) (Int32.toNatClampNeg (x1 * 5)) (Int32.toNatClampNeg x2)) (upd f_this_counts (Int32.toNatClampNeg x2) ((f_this_counts (Int32.toNatClampNeg x2)) + 1)) f_this_saidWithout f_this_row) := hD
      refine lv_aload_n hx hb dX6_note_59 rfl (lv_at hl 0 rfl) ?_
      refine lv_iload_n hx hb dX6_note_60 rfl (lv_at hl 1 rfl) ?_
      refine lv_iload_n hx hb dX6_note_61 rfl (lv_at hl 2 rfl) ?_
      refine lv_iload_n hx hb dX6_note_62 rfl (lv_at hl 3 rfl) ?_
      refine z_Vv (n := 3) (As := [.int x1, .int x2, .int x3]) (rest := []) ⟨hx, hb, hml, hown, hts⟩ (c_X6_noteWithout l dC dI cI cC cS q_this q_this_saidWithout q_this_row q_this_fewest q_this_firsts q_this_counts _ v_this_kind v_this_known (v_this_said ||| (1 <<< (x1 &&& 31))) f_this_saidWithout f_this_row x1 x2 x3 N _  hf) gX6_note_X6_noteWithout rfl rfl rfl (by decide +kernel) ⟨Nat.le_of_ble_eq_true rfl, Nat.le_of_ble_eq_true rfl⟩ hK hP hD hS hA 0 5 rfl rfl rfl hl.1 rfl (Nat.le_of_ble_eq_true rfl) dX6_note_63 ⟨Nat.zero_le _, Nat.zero_le _⟩ [0, 4, 5] [1, 2, 3] (([(q_this_fewest, .inl (cI, 16, .inl (upd f_this_fewest (Int32.toNatClampNeg x1) x2))), (q_this_firsts, .inl (cI, 80, .inl (va_cpy f_this_row f_this_firsts (Int32.toNatClampNeg 0) (Int32.toNatClampNeg (x1 * 5)) (Int32.toNatClampNeg x2)))), (q_this_counts, .inl (cI, 6, .inl (upd f_this_counts (Int32.toNatClampNeg x2) ((f_this_counts (Int32.toNatClampNeg x2)) + 1))))] : va_W)) rfl rfl (by decide) (by decide) (by decide) (fun u => (zW_X6_note cI cC cS q_this q_this_fewest q_this_firsts q_this_counts q_this_saidWithout q_this_row v_this_kind v_this_known (v_this_said ||| (1 <<< (x1 &&& 31))) (upd f_this_fewest (Int32.toNatClampNeg x1) x2) (va_cpy f_this_row f_this_firsts (Int32.toNatClampNeg 0) (Int32.toNatClampNeg (x1 * 5)) (Int32.toNatClampNeg x2)) (upd f_this_counts (Int32.toNatClampNeg x2) ((f_this_counts (Int32.toNatClampNeg x2)) + 1)) u f_this_row)) [3, 0, 1, 2, 4, 5] (fun u => rfl) (by decide) (fun u5 H locs hf hP hD hS => ?_)
      have hP : va_P (dC, dI) vwCl (zW_X6_note cI cC cS q_this q_this_fewest q_this_firsts q_this_counts q_this_saidWithout q_this_row v_this_kind v_this_known (v_this_said ||| (1 <<< (x1 &&& 31))) (upd f_this_fewest (Int32.toNatClampNeg x1) x2) (va_cpy f_this_row f_this_firsts (Int32.toNatClampNeg 0) (Int32.toNatClampNeg (x1 * 5)) (Int32.toNatClampNeg x2)) (upd f_this_counts (Int32.toNatClampNeg x2) ((f_this_counts (Int32.toNatClampNeg x2)) + 1)) u5 f_this_row) H := hP
      have hD : va_D A (zW_X6_note cI cC cS q_this q_this_fewest q_this_firsts q_this_counts q_this_saidWithout q_this_row v_this_kind v_this_known (v_this_said ||| (1 <<< (x1 &&& 31))) (upd f_this_fewest (Int32.toNatClampNeg x1) x2) (va_cpy f_this_row f_this_firsts (Int32.toNatClampNeg 0) (Int32.toNatClampNeg (x1 * 5)) (Int32.toNatClampNeg x2)) (upd f_this_counts (Int32.toNatClampNeg x2) ((f_this_counts (Int32.toNatClampNeg x2)) + 1)) u5 f_this_row) := hD
      exact z_vret hx hb hr hlocks ((v_this_said ||| (1 <<< (x1 &&& 31))), (upd f_this_fewest (Int32.toNatClampNeg x1) x2), (va_cpy f_this_row f_this_firsts (Int32.toNatClampNeg 0) (Int32.toNatClampNeg (x1 * 5)) (Int32.toNatClampNeg x2)), (upd f_this_counts (Int32.toNatClampNeg x2) ((f_this_counts (Int32.toNatClampNeg x2)) + 1)), u5) hf hK hP hD hS dX6_note_66
def lp_X6_lookAtAll_17 (N : Nat) (x2 : Int32) (v_this_kind : Int32) (v_p1_words : Int32) (f_p1_kinds : Nat → Int32) (f_p1_sets : Nat → Int32) (Φ : Int32 → (Nat → Int32) → (Nat → Int32) → (Nat → Int32) → (Nat → Int32) → (Nat → Int32) → Prop) : Nat → Int32 → Int32 → (Nat → Int32) → (Nat → Int32) → (Nat → Int32) → (Nat → Int32) → (Nat → Int32) → Prop
  | 0, _, _, _, _, _, _, _ => False
  | n + 1, x3, v_this_said, f_this_fewest, f_this_firsts, f_this_counts, f_this_saidWithout, f_this_row => 
    ((x3 ≤ 0 → Φ v_this_said f_this_fewest f_this_firsts f_this_counts f_this_saidWithout f_this_row) ∧
     (¬ (x3 ≤ 0) → wp_X5_isFirstOfTurns N 5 x2 f_this_row (fun r2 => 
     ((r2 = 0 → wp_X5_step N 5 x2 v_p1_words f_this_row (fun o4_0 => 
     (lp_X6_lookAtAll_17 N x2 v_this_kind v_p1_words f_p1_kinds f_p1_sets Φ n) (x3 + (-1)) v_this_said f_this_fewest f_this_firsts f_this_counts f_this_saidWithout o4_0)) ∧
     (¬ (r2 = 0) → wp_X8_oneMeaning N 5 x2 v_this_kind v_p1_words f_p1_kinds f_p1_sets f_this_row (fun r5 => 
     ((r5 = 16 → wp_X5_step N 5 x2 v_p1_words f_this_row (fun o7_0 => 
     (lp_X6_lookAtAll_17 N x2 v_this_kind v_p1_words f_p1_kinds f_p1_sets Φ n) (x3 + (-1)) v_this_said f_this_fewest f_this_firsts f_this_counts f_this_saidWithout o7_0)) ∧
     (¬ (r5 = 16) → wp_X6_note N r5 x2 v_p1_words v_this_said f_this_fewest f_this_firsts f_this_counts f_this_saidWithout f_this_row (fun o8_0 o8_1 o8_2 o8_3 o8_4 => 
     wp_X5_step N 5 x2 v_p1_words f_this_row (fun o9_0 => 
     (lp_X6_lookAtAll_17 N x2 v_this_kind v_p1_words f_p1_kinds f_p1_sets Φ n) (x3 + (-1)) o8_0 o8_1 o8_2 o8_3 o8_4 o9_0))))))))))
def wp_X6_lookAtAll (N : Nat) (x2 : Int32) (v_this_kind : Int32) (v_this_said : Int32) (f_this_fewest : Nat → Int32) (f_this_firsts : Nat → Int32) (f_this_counts : Nat → Int32) (f_this_saidWithout : Nat → Int32) (f_this_row : Nat → Int32) (v_p1_words : Int32) (f_p1_kinds : Nat → Int32) (f_p1_sets : Nat → Int32) (Φ : Int32 → (Nat → Int32) → (Nat → Int32) → (Nat → Int32) → (Nat → Int32) → (Nat → Int32) → Prop) : Prop := 
    wp_X5_begin N 5 x2 f_this_row (fun o1_0 => 
     wp_X5_howMany N v_p1_words x2 (fun r2 => 
     lp_X6_lookAtAll_17 N x2 v_this_kind v_p1_words f_p1_kinds f_p1_sets Φ N r2 v_this_said f_this_fewest f_this_firsts f_this_counts f_this_saidWithout o1_0))
abbrev zW_X6_lookAtAll (cI cC cS : ClassId) (q_this : Nat) (q_this_fewest : Nat) (q_this_firsts : Nat) (q_this_counts : Nat) (q_this_saidWithout : Nat) (q_this_row : Nat) (q_p1 : Nat) (q_p1_kinds : Nat) (q_p1_sets : Nat) (q_p1_weights : Nat) (q_p1_stocks : Nat) (q_p1_readers : Nat) (q_p1_eighths : Nat) (q_p1_wishes : Nat) (v_this_kind : Int32) (v_this_known : Int32) (v_this_said : Int32) (f_this_fewest : Nat → Int32) (f_this_firsts : Nat → Int32) (f_this_counts : Nat → Int32) (f_this_saidWithout : Nat → Int32) (f_this_row : Nat → Int32) (v_p1_words : Int32) (v_p1_roads : Int32) (f_p1_kinds : Nat → Int32) (f_p1_sets : Nat → Int32) : va_W := [(q_this, .inr (5, [.int v_this_kind, .int v_this_known, .ref q_this_fewest, .ref q_this_firsts, .ref q_this_counts, .int v_this_said, .ref q_this_saidWithout, .ref q_this_row])),
  (q_this_fewest, .inl (cI, 16, .inl f_this_fewest)),
  (q_this_firsts, .inl (cI, 80, .inl f_this_firsts)),
  (q_this_counts, .inl (cI, 6, .inl f_this_counts)),
  (q_this_saidWithout, .inl (cI, 6, .inl f_this_saidWithout)),
  (q_this_row, .inl (cI, 5, .inl f_this_row)),
  (q_p1, .inr (7, [.ref q_p1_kinds, .ref q_p1_sets, .ref q_p1_weights, .ref q_p1_stocks, .int v_p1_words, .ref q_p1_readers, .ref q_p1_eighths, .ref q_p1_wishes, .int v_p1_roads])),
  (q_p1_kinds, .inl (cI, 6, .inl f_p1_kinds)),
  (q_p1_sets, .inl (cI, 6, .inl f_p1_sets))]
abbrev zr_X6_lookAtAll : Room := { frames := 3, cells := 0, slots := 0, locals := 83 }
set_option maxHeartbeats 4000000 in
set_option maxRecDepth 100000 in
theorem c_X6_lookAtAll (l : Launch) (dC : Nat → ClassId) (dI : Nat → Nat → Nat) (cI cC cS : ClassId) (q_this : Nat) (q_this_fewest : Nat) (q_this_firsts : Nat) (q_this_counts : Nat) (q_this_saidWithout : Nat) (q_this_row : Nat) (q_p1 : Nat) (q_p1_kinds : Nat) (q_p1_sets : Nat) (q_p1_weights : Nat) (q_p1_stocks : Nat) (q_p1_readers : Nat) (q_p1_eighths : Nat) (q_p1_wishes : Nat) (sz : Nat) (v_this_kind : Int32) (v_this_known : Int32) (v_this_said : Int32) (f_this_fewest : Nat → Int32) (f_this_firsts : Nat → Int32) (f_this_counts : Nat → Int32) (f_this_saidWithout : Nat → Int32) (f_this_row : Nat → Int32) (v_p1_words : Int32) (v_p1_roads : Int32) (f_p1_kinds : Nat → Int32) (f_p1_sets : Nat → Int32) (x2 : Int32) (N : Nat) (Φ : Int32 → (Nat → Int32) → (Nat → Int32) → (Nat → Int32) → (Nat → Int32) → (Nat → Int32) → Prop)  (hf : wp_X6_lookAtAll N x2 v_this_kind v_this_said f_this_fewest f_this_firsts f_this_counts f_this_saidWithout f_this_row v_p1_words f_p1_kinds f_p1_sets Φ) : Met l yX6_lookAtAll wsX6_lookAtAll zr_X6_lookAtAll (zPc (dC, dI) (zT cI cC cS) [.ref q_this, .ref q_p1, .int x2] sz (zW_X6_lookAtAll cI cC cS q_this q_this_fewest q_this_firsts q_this_counts q_this_saidWithout q_this_row q_p1 q_p1_kinds q_p1_sets q_p1_weights q_p1_stocks q_p1_readers q_p1_eighths q_p1_wishes v_this_kind v_this_known v_this_said f_this_fewest f_this_firsts f_this_counts f_this_saidWithout f_this_row v_p1_words v_p1_roads f_p1_kinds f_p1_sets)) (zQv (dC, dI) (zT cI cC cS) (va_A (zW_X6_lookAtAll cI cC cS q_this q_this_fewest q_this_firsts q_this_counts q_this_saidWithout q_this_row q_p1 q_p1_kinds q_p1_sets q_p1_weights q_p1_stocks q_p1_readers q_p1_eighths q_p1_wishes v_this_kind v_this_known v_this_said f_this_fewest f_this_firsts f_this_counts f_this_saidWithout f_this_row v_p1_words v_p1_roads f_p1_kinds f_p1_sets) sz) (fun (u : (Int32) × (Nat → Int32) × (Nat → Int32) × (Nat → Int32) × (Nat → Int32) × (Nat → Int32)) => Φ u.1 u.2.1 u.2.2.1 u.2.2.2.1 u.2.2.2.2.1 u.2.2.2.2.2) (fun u => (zW_X6_lookAtAll cI cC cS q_this q_this_fewest q_this_firsts q_this_counts q_this_saidWithout q_this_row q_p1 q_p1_kinds q_p1_sets q_p1_weights q_p1_stocks q_p1_readers q_p1_eighths q_p1_wishes v_this_kind v_this_known u.1 u.2.1 u.2.2.1 u.2.2.2.1 u.2.2.2.2.1 u.2.2.2.2.2 v_p1_words v_p1_roads f_p1_kinds f_p1_sets))) 0 0 (va_A (zW_X6_lookAtAll cI cC cS q_this q_this_fewest q_this_firsts q_this_counts q_this_saidWithout q_this_row q_p1 q_p1_kinds q_p1_sets q_p1_weights q_p1_stocks q_p1_readers q_p1_eighths q_p1_wishes v_this_kind v_this_known v_this_said f_this_fewest f_this_firsts f_this_counts f_this_saidWithout f_this_row v_p1_words v_p1_roads f_p1_kinds f_p1_sets) sz) := by
  refine Met.ofW (cc := cX6_lookAtAll) (maxL := 5) (ret := none) (by decide) rfl ?_
  intro p e s m args below meth c s₁ B hml hv
  obtain ⟨rfl, hsz, hP, hK, hD0⟩ := hv
  have hx := B.exec
  have hb := B.bytes
  have hr := B.returns
  have hts := atoms_spec (ws := wsX6_lookAtAll) B.pre
  have hown : s.vm.findClass RX6 = some m.cls := findClass_of_methodNamed B.named
  have hlocks := B.notSynchronized
  subst hsz
  have hD := hD0.self (sz := s.heap.size)
  have hA : ∀ q : Nat, s.heap.size ≤ q → va_A (zW_X6_lookAtAll cI cC cS q_this q_this_fewest q_this_firsts q_this_counts q_this_saidWithout q_this_row q_p1 q_p1_kinds q_p1_sets q_p1_weights q_p1_stocks q_p1_readers q_p1_eighths q_p1_wishes v_this_kind v_this_known v_this_said f_this_fewest f_this_firsts f_this_counts f_this_saidWithout f_this_row v_p1_words v_p1_roads f_p1_kinds f_p1_sets) s.heap.size q := fun q h => Or.inr h
  generalize va_A (zW_X6_lookAtAll cI cC cS q_this q_this_fewest q_this_firsts q_this_counts q_this_saidWithout q_this_row q_p1 q_p1_kinds q_p1_sets q_p1_weights q_p1_stocks q_p1_readers q_p1_eighths q_p1_wishes v_this_kind v_this_known v_this_said f_this_fewest f_this_firsts f_this_counts f_this_saidWithout f_this_row v_p1_words v_p1_roads f_p1_kinds f_p1_sets) s.heap.size = A at hD hA ⊢
  have hS : va_S A s.heap s.heap [] := va_S.rf
  have hl := lv_entry ([.ref q_this, .ref q_p1, .int x2]) (n := 5) (Nat.le_of_ble_eq_true rfl)
  rw [lg_entry_eq]
  generalize (lg_sl ([.ref q_this, .ref q_p1, .int x2]) ++ List.replicate (5 - (lg_sl ([.ref q_this, .ref q_p1, .int x2])).length) Slot.unset).toArray = ls at hl ⊢
  have hl : lv_has ls 5 [(0, .ref q_this), (1, .ref q_p1), (2, .int x2)] := hl
  have lk1 := hts (.fieldLink RX6 35 "ReadFromAnywhere$Survey" "row" "[I") (List.mem_of_getElem? (i := 1) rfl)
  have inX6 : ∀ w ∈ u_ws RX6 TX6 8, w ∈ wsX6_lookAtAll := fun _ h => List.mem_cons_of_mem _ (List.mem_append_left _ (List.mem_append_right _ h))
  have lk2 := hts (.fieldLink RX6 53 "ReadFromAnywhere$Tongue" "words" "I") (List.mem_of_getElem? (i := 2) rfl)
  have inX8 : ∀ w ∈ u_ws RX8 TX8 9, w ∈ wsX6_lookAtAll := fun _ h => List.mem_cons_of_mem _ (List.mem_append_right _ h)
  have lk3 := hts (.fieldLink RX6 9 "ReadFromAnywhere$Survey" "kind" "I") (List.mem_of_getElem? (i := 3) rfl)
  have L17 : ∀ (n17 : Nat) (x3 : Int32) (v_this_said : Int32) (f_this_fewest : Nat → Int32) (f_this_firsts : Nat → Int32) (f_this_counts : Nat → Int32) (f_this_saidWithout : Nat → Int32) (f_this_row : Nat → Int32), ∀ (H : Heap) (locs : List Loc) (ls : Array Slot), va_P (dC, dI) vwCl (zW_X6_lookAtAll cI cC cS q_this q_this_fewest q_this_firsts q_this_counts q_this_saidWithout q_this_row q_p1 q_p1_kinds q_p1_sets q_p1_weights q_p1_stocks q_p1_readers q_p1_eighths q_p1_wishes v_this_kind v_this_known v_this_said f_this_fewest f_this_firsts f_this_counts f_this_saidWithout f_this_row v_p1_words v_p1_roads f_p1_kinds f_p1_sets) H → va_D A (zW_X6_lookAtAll cI cC cS q_this q_this_fewest q_this_firsts q_this_counts q_this_saidWithout q_this_row q_p1 q_p1_kinds q_p1_sets q_p1_weights q_p1_stocks q_p1_readers q_p1_eighths q_p1_wishes v_this_kind v_this_known v_this_said f_this_fewest f_this_firsts f_this_counts f_this_saidWithout f_this_row v_p1_words v_p1_roads f_p1_kinds f_p1_sets) → va_S A s.heap H locs → lv_has ls 5 [(0, .ref q_this), (1, .ref q_p1), (2, .int x2), (3, .int x3)] → lp_X6_lookAtAll_17 N x2 v_this_kind v_p1_words f_p1_kinds f_p1_sets Φ n17 x3 v_this_said f_this_fewest f_this_firsts f_this_counts f_this_saidWithout f_this_row → W p l e (headSpec wsX6_lookAtAll zr_X6_lookAtAll).room s m ([.ref q_this, .ref q_p1, .int x2] : List Value).toArray below meth c H locs 0 0 (MQ below (zQv (dC, dI) (zT cI cC cS) A (fun (u : (Int32) × (Nat → Int32) × (Nat → Int32) × (Nat → Int32) × (Nat → Int32) × (Nat → Int32)) => Φ u.1 u.2.1 u.2.2.1 u.2.2.2.1 u.2.2.2.2.1 u.2.2.2.2.2) (fun u => (zW_X6_lookAtAll cI cC cS q_this q_this_fewest q_this_firsts q_this_counts q_this_saidWithout q_this_row q_p1 q_p1_kinds q_p1_sets q_p1_weights q_p1_stocks q_p1_readers q_p1_eighths q_p1_wishes v_this_kind v_this_known u.1 u.2.1 u.2.2.1 u.2.2.2.1 u.2.2.2.2.1 u.2.2.2.2.2 v_p1_words v_p1_roads f_p1_kinds f_p1_sets))) ([.ref q_this, .ref q_p1, .int x2] : List Value).toArray s 0 0 A) (F0 m 17 ls []) := by
    intro n17
    induction n17 with
    | zero =>
      intro x3 v_this_said f_this_fewest f_this_firsts f_this_counts f_this_saidWithout f_this_row H locs ls hP hD hS hl hf
      exact absurd hf (by rw [lp_X6_lookAtAll_17]; exact id)
    | succ n17 ih17 =>
      intro x3 v_this_said f_this_fewest f_this_firsts f_this_counts f_this_saidWithout f_this_row H locs ls hP hD hS hl hf
      rw [lp_X6_lookAtAll_17] at hf
      refine lv_iload_n hx hb dX6_lookAtAll_17 rfl (lv_at hl 3 rfl) ?_
      refine lv_if_le (tgt := 83) hx hb dX6_lookAtAll_18 (by decide) (fun c1 => ?_) (fun c1 => ?_)
      · replace hf := hf.1 c1
        exact z_vret hx hb hr hlocks (v_this_said, f_this_fewest, f_this_firsts, f_this_counts, f_this_saidWithout, f_this_row) hf hK hP hD hS dX6_lookAtAll_83
      · replace hf := hf.2 c1
        refine lv_aload_n hx hb dX6_lookAtAll_21 rfl (lv_at hl 0 rfl) ?_
        refine va_get (D := (dC, dI)) (ci := 5) (v := .ref q_this_row) (C := RX6) (T := TX6) (N := 8) hx hb hts inX6 hown hK hP 0 rfl rfl 7 (by decide) lk1 (fun _ h9 => h9) rfl dX6_lookAtAll_22 ?_
        refine lv_iload_n hx hb dX6_lookAtAll_25 rfl (lv_at hl 2 rfl) ?_
        refine z_Si (n := 2) (As := [.ref q_this_row, .int x2]) (rest := []) ⟨hx, hb, hml, hown, hts⟩ (c_X5_isFirstOfTurns l dC dI cI cC cS q_this_row _ 5 f_this_row x2 N _  hf) gX6_lookAtAll_X5_isFirstOfTurns rfl rfl rfl (by decide +kernel) ⟨Nat.le_of_ble_eq_true rfl, Nat.le_of_ble_eq_true rfl⟩ hK hP hD hS hA rfl hl.1 rfl (Nat.le_of_ble_eq_true rfl) dX6_lookAtAll_26 ⟨Nat.zero_le _, Nat.zero_le _⟩ [5] [0, 1, 2, 3, 4, 6, 7, 8] (([(q_this, .inr (5, [.int v_this_kind, .int v_this_known, .ref q_this_fewest, .ref q_this_firsts, .ref q_this_counts, .int v_this_said, .ref q_this_saidWithout, .ref q_this_row])), (q_this_fewest, .inl (cI, 16, .inl f_this_fewest)), (q_this_firsts, .inl (cI, 80, .inl f_this_firsts)), (q_this_counts, .inl (cI, 6, .inl f_this_counts)), (q_this_saidWithout, .inl (cI, 6, .inl f_this_saidWithout)), (q_p1, .inr (7, [.ref q_p1_kinds, .ref q_p1_sets, .ref q_p1_weights, .ref q_p1_stocks, .int v_p1_words, .ref q_p1_readers, .ref q_p1_eighths, .ref q_p1_wishes, .int v_p1_roads])), (q_p1_kinds, .inl (cI, 6, .inl f_p1_kinds)), (q_p1_sets, .inl (cI, 6, .inl f_p1_sets))] : va_W)) rfl rfl (by decide) (by decide) (by decide) (fun u => (zW_X6_lookAtAll cI cC cS q_this q_this_fewest q_this_firsts q_this_counts q_this_saidWithout q_this_row q_p1 q_p1_kinds q_p1_sets q_p1_weights q_p1_stocks q_p1_readers q_p1_eighths q_p1_wishes v_this_kind v_this_known v_this_said f_this_fewest f_this_firsts f_this_counts f_this_saidWithout f_this_row v_p1_words v_p1_roads f_p1_kinds f_p1_sets)) [0, 1, 2, 3, 4, 8, 5, 6, 7] (fun u => rfl) (by decide) (fun r2 u2 H locs hf hP hD hS => ?_)
        have hP : va_P (dC, dI) vwCl (zW_X6_lookAtAll cI cC cS q_this q_this_fewest q_this_firsts q_this_counts q_this_saidWithout q_this_row q_p1 q_p1_kinds q_p1_sets q_p1_weights q_p1_stocks q_p1_readers q_p1_eighths q_p1_wishes v_this_kind v_this_known v_this_said f_this_fewest f_this_firsts f_this_counts f_this_saidWithout f_this_row v_p1_words v_p1_roads f_p1_kinds f_p1_sets) H := hP
        have hD : va_D A (zW_X6_lookAtAll cI cC cS q_this q_this_fewest q_this_firsts q_this_counts q_this_saidWithout q_this_row q_p1 q_p1_kinds q_p1_sets q_p1_weights q_p1_stocks q_p1_readers q_p1_eighths q_p1_wishes v_this_kind v_this_known v_this_said f_this_fewest f_this_firsts f_this_counts f_this_saidWithout f_this_row v_p1_words v_p1_roads f_p1_kinds f_p1_sets) := hD
        refine lv_if_eq (tgt := 65) hx hb dX6_lookAtAll_29 (by decide) (fun c3 => ?_) (fun c3 => ?_)
        · replace hf := hf.1 c3
          refine lv_aload_n hx hb dX6_lookAtAll_65 rfl (lv_at hl 0 rfl) ?_
          refine va_get (D := (dC, dI)) (ci := 5) (v := .ref q_this_row) (C := RX6) (T := TX6) (N := 8) hx hb hts inX6 hown hK hP 0 rfl rfl 7 (by decide) lk1 (fun _ h9 => h9) rfl dX6_lookAtAll_66 ?_
          refine lv_iload_n hx hb dX6_lookAtAll_69 rfl (lv_at hl 2 rfl) ?_
          refine lv_aload_n hx hb dX6_lookAtAll_70 rfl (lv_at hl 1 rfl) ?_
          refine va_get (D := (dC, dI)) (ci := 7) (v := .int v_p1_words) (C := RX8) (T := TX8) (N := 9) hx hb hts inX8 hown hK hP 6 rfl rfl 4 (by decide) lk2 (fun _ h9 => h9) rfl dX6_lookAtAll_71 ?_
          refine z_Sv (n := 3) (As := [.ref q_this_row, .int x2, .int v_p1_words]) (rest := []) ⟨hx, hb, hml, hown, hts⟩ (c_X5_step l dC dI cI cC cS q_this_row _ 5 f_this_row x2 v_p1_words N _  hf) gX6_lookAtAll_X5_step rfl rfl rfl (by decide +kernel) ⟨Nat.le_of_ble_eq_true rfl, Nat.le_of_ble_eq_true rfl⟩ hK hP hD hS hA rfl hl.1 rfl (Nat.le_of_ble_eq_true rfl) dX6_lookAtAll_74 ⟨Nat.zero_le _, Nat.zero_le _⟩ [5] [0, 1, 2, 3, 4, 6, 7, 8] (([(q_this, .inr (5, [.int v_this_kind, .int v_this_known, .ref q_this_fewest, .ref q_this_firsts, .ref q_this_counts, .int v_this_said, .ref q_this_saidWithout, .ref q_this_row])), (q_this_fewest, .inl (cI, 16, .inl f_this_fewest)), (q_this_firsts, .inl (cI, 80, .inl f_this_firsts)), (q_this_counts, .inl (cI, 6, .inl f_this_counts)), (q_this_saidWithout, .inl (cI, 6, .inl f_this_saidWithout)), (q_p1, .inr (7, [.ref q_p1_kinds, .ref q_p1_sets, .ref q_p1_weights, .ref q_p1_stocks, .int v_p1_words, .ref q_p1_readers, .ref q_p1_eighths, .ref q_p1_wishes, .int v_p1_roads])), (q_p1_kinds, .inl (cI, 6, .inl f_p1_kinds)), (q_p1_sets, .inl (cI, 6, .inl f_p1_sets))] : va_W)) rfl rfl (by decide) (by decide) (by decide) (fun u => (zW_X6_lookAtAll cI cC cS q_this q_this_fewest q_this_firsts q_this_counts q_this_saidWithout q_this_row q_p1 q_p1_kinds q_p1_sets q_p1_weights q_p1_stocks q_p1_readers q_p1_eighths q_p1_wishes v_this_kind v_this_known v_this_said f_this_fewest f_this_firsts f_this_counts f_this_saidWithout u v_p1_words v_p1_roads f_p1_kinds f_p1_sets)) [0, 1, 2, 3, 4, 8, 5, 6, 7] (fun u => rfl) (by decide) (fun u4 H locs hf hP hD hS => ?_)
          have hP : va_P (dC, dI) vwCl (zW_X6_lookAtAll cI cC cS q_this q_this_fewest q_this_firsts q_this_counts q_this_saidWithout q_this_row q_p1 q_p1_kinds q_p1_sets q_p1_weights q_p1_stocks q_p1_readers q_p1_eighths q_p1_wishes v_this_kind v_this_known v_this_said f_this_fewest f_this_firsts f_this_counts f_this_saidWithout u4 v_p1_words v_p1_roads f_p1_kinds f_p1_sets) H := hP
          have hD : va_D A (zW_X6_lookAtAll cI cC cS q_this q_this_fewest q_this_firsts q_this_counts q_this_saidWithout q_this_row q_p1 q_p1_kinds q_p1_sets q_p1_weights q_p1_stocks q_p1_readers q_p1_eighths q_p1_wishes v_this_kind v_this_known v_this_said f_this_fewest f_this_firsts f_this_counts f_this_saidWithout u4 v_p1_words v_p1_roads f_p1_kinds f_p1_sets) := hD
          refine lv_iinc (v := (x3 + (-1))) (lv' := [(3, .int (x3 + (-1))), (0, .ref q_this), (1, .ref q_p1), (2, .int x2)]) hx hb dX6_lookAtAll_77 hl (k := 3) rfl (by rfl) (by decide) rfl (fun ls hl => ?_)
          refine lv_goto (tgt := 17) hx hb dX6_lookAtAll_80 (by decide) ?_
          exact ih17 (x3 + (-1)) v_this_said f_this_fewest f_this_firsts f_this_counts f_this_saidWithout u4 _ _ _ hP hD hS (lv_sub hl [1, 2, 3, 0] rfl) hf
        · replace hf := hf.2 c3
          refine lv_aload_n hx hb dX6_lookAtAll_32 rfl (lv_at hl 1 rfl) ?_
          refine lv_aload_n hx hb dX6_lookAtAll_33 rfl (lv_at hl 0 rfl) ?_
          refine va_get (D := (dC, dI)) (ci := 5) (v := .ref q_this_row) (C := RX6) (T := TX6) (N := 8) hx hb hts inX6 hown hK hP 0 rfl rfl 7 (by decide) lk1 (fun _ h9 => h9) rfl dX6_lookAtAll_34 ?_
          refine lv_iload_n hx hb dX6_lookAtAll_37 rfl (lv_at hl 2 rfl) ?_
          refine lv_aload_n hx hb dX6_lookAtAll_38 rfl (lv_at hl 0 rfl) ?_
          refine va_get (D := (dC, dI)) (ci := 5) (v := .int v_this_kind) (C := RX6) (T := TX6) (N := 8) hx hb hts inX6 hown hK hP 0 rfl rfl 0 (by decide) lk3 (fun _ h9 => h9) rfl dX6_lookAtAll_39 ?_
          refine z_Vi (n := 3) (As := [.ref q_this_row, .int x2, .int v_this_kind]) (rest := []) ⟨hx, hb, hml, hown, hts⟩ (c_X8_oneMeaning l dC dI cI cC cS q_p1 q_p1_kinds q_p1_sets q_this_row q_p1_weights q_p1_stocks q_p1_readers q_p1_eighths q_p1_wishes _ 5 v_p1_words v_p1_roads f_p1_kinds f_p1_sets f_this_row x2 v_this_kind N _  hf) gX6_lookAtAll_X8_oneMeaning rfl rfl rfl (by decide +kernel) ⟨Nat.le_of_ble_eq_true rfl, Nat.le_of_ble_eq_true rfl⟩ hK hP hD hS hA 6 7 rfl rfl rfl hl.1 rfl (Nat.le_of_ble_eq_true rfl) dX6_lookAtAll_42 ⟨Nat.zero_le _, Nat.zero_le _⟩ [6, 7, 8, 5] [0, 1, 2, 3, 4] (([(q_this, .inr (5, [.int v_this_kind, .int v_this_known, .ref q_this_fewest, .ref q_this_firsts, .ref q_this_counts, .int v_this_said, .ref q_this_saidWithout, .ref q_this_row])), (q_this_fewest, .inl (cI, 16, .inl f_this_fewest)), (q_this_firsts, .inl (cI, 80, .inl f_this_firsts)), (q_this_counts, .inl (cI, 6, .inl f_this_counts)), (q_this_saidWithout, .inl (cI, 6, .inl f_this_saidWithout))] : va_W)) rfl rfl (by decide) (by decide) (by decide) (fun u => (zW_X6_lookAtAll cI cC cS q_this q_this_fewest q_this_firsts q_this_counts q_this_saidWithout q_this_row q_p1 q_p1_kinds q_p1_sets q_p1_weights q_p1_stocks q_p1_readers q_p1_eighths q_p1_wishes v_this_kind v_this_known v_this_said f_this_fewest f_this_firsts f_this_counts f_this_saidWithout f_this_row v_p1_words v_p1_roads f_p1_kinds f_p1_sets)) [0, 1, 2, 3, 4, 8, 5, 6, 7] (fun u => rfl) (by decide) (fun r5 u5 H locs hf hP hD hS => ?_)
          have hP : va_P (dC, dI) vwCl (zW_X6_lookAtAll cI cC cS q_this q_this_fewest q_this_firsts q_this_counts q_this_saidWithout q_this_row q_p1 q_p1_kinds q_p1_sets q_p1_weights q_p1_stocks q_p1_readers q_p1_eighths q_p1_wishes v_this_kind v_this_known v_this_said f_this_fewest f_this_firsts f_this_counts f_this_saidWithout f_this_row v_p1_words v_p1_roads f_p1_kinds f_p1_sets) H := hP
          have hD : va_D A (zW_X6_lookAtAll cI cC cS q_this q_this_fewest q_this_firsts q_this_counts q_this_saidWithout q_this_row q_p1 q_p1_kinds q_p1_sets q_p1_weights q_p1_stocks q_p1_readers q_p1_eighths q_p1_wishes v_this_kind v_this_known v_this_said f_this_fewest f_this_firsts f_this_counts f_this_saidWithout f_this_row v_p1_words v_p1_roads f_p1_kinds f_p1_sets) := hD
          refine lv_istore (lv' := [(4, .int r5), (0, .ref q_this), (1, .ref q_p1), (2, .int x2), (3, .int x3)]) hx hb dX6_lookAtAll_45 hl (by decide) rfl (fun ls hl => ?_)
          refine lv_iload hx hb dX6_lookAtAll_47 (lv_at hl 0 rfl) ?_
          refine lv_bipush (v := 16) hx hb dX6_lookAtAll_49 (by decide) ?_
          refine lv_icmp_eq (tgt := 65) hx hb dX6_lookAtAll_51 (by decide) (fun c6 => ?_) (fun c6 => ?_)
          · replace hf := hf.1 c6
            refine lv_aload_n hx hb dX6_lookAtAll_65 rfl (lv_at hl 1 rfl) ?_
            refine va_get (D := (dC, dI)) (ci := 5) (v := .ref q_this_row) (C := RX6) (T := TX6) (N := 8) hx hb hts inX6 hown hK hP 0 rfl rfl 7 (by decide) lk1 (fun _ h9 => h9) rfl dX6_lookAtAll_66 ?_
            refine lv_iload_n hx hb dX6_lookAtAll_69 rfl (lv_at hl 3 rfl) ?_
            refine lv_aload_n hx hb dX6_lookAtAll_70 rfl (lv_at hl 2 rfl) ?_
            refine va_get (D := (dC, dI)) (ci := 7) (v := .int v_p1_words) (C := RX8) (T := TX8) (N := 9) hx hb hts inX8 hown hK hP 6 rfl rfl 4 (by decide) lk2 (fun _ h9 => h9) rfl dX6_lookAtAll_71 ?_
            refine z_Sv (n := 3) (As := [.ref q_this_row, .int x2, .int v_p1_words]) (rest := []) ⟨hx, hb, hml, hown, hts⟩ (c_X5_step l dC dI cI cC cS q_this_row _ 5 f_this_row x2 v_p1_words N _  hf) gX6_lookAtAll_X5_step rfl rfl rfl (by decide +kernel) ⟨Nat.le_of_ble_eq_true rfl, Nat.le_of_ble_eq_true rfl⟩ hK hP hD hS hA rfl hl.1 rfl (Nat.le_of_ble_eq_true rfl) dX6_lookAtAll_74 ⟨Nat.zero_le _, Nat.zero_le _⟩ [5] [0, 1, 2, 3, 4, 6, 7, 8] (([(q_this, .inr (5, [.int v_this_kind, .int v_this_known, .ref q_this_fewest, .ref q_this_firsts, .ref q_this_counts, .int v_this_said, .ref q_this_saidWithout, .ref q_this_row])), (q_this_fewest, .inl (cI, 16, .inl f_this_fewest)), (q_this_firsts, .inl (cI, 80, .inl f_this_firsts)), (q_this_counts, .inl (cI, 6, .inl f_this_counts)), (q_this_saidWithout, .inl (cI, 6, .inl f_this_saidWithout)), (q_p1, .inr (7, [.ref q_p1_kinds, .ref q_p1_sets, .ref q_p1_weights, .ref q_p1_stocks, .int v_p1_words, .ref q_p1_readers, .ref q_p1_eighths, .ref q_p1_wishes, .int v_p1_roads])), (q_p1_kinds, .inl (cI, 6, .inl f_p1_kinds)), (q_p1_sets, .inl (cI, 6, .inl f_p1_sets))] : va_W)) rfl rfl (by decide) (by decide) (by decide) (fun u => (zW_X6_lookAtAll cI cC cS q_this q_this_fewest q_this_firsts q_this_counts q_this_saidWithout q_this_row q_p1 q_p1_kinds q_p1_sets q_p1_weights q_p1_stocks q_p1_readers q_p1_eighths q_p1_wishes v_this_kind v_this_known v_this_said f_this_fewest f_this_firsts f_this_counts f_this_saidWithout u v_p1_words v_p1_roads f_p1_kinds f_p1_sets)) [0, 1, 2, 3, 4, 8, 5, 6, 7] (fun u => rfl) (by decide) (fun u7 H locs hf hP hD hS => ?_)
            have hP : va_P (dC, dI) vwCl (zW_X6_lookAtAll cI cC cS q_this q_this_fewest q_this_firsts q_this_counts q_this_saidWithout q_this_row q_p1 q_p1_kinds q_p1_sets q_p1_weights q_p1_stocks q_p1_readers q_p1_eighths q_p1_wishes v_this_kind v_this_known v_this_said f_this_fewest f_this_firsts f_this_counts f_this_saidWithout u7 v_p1_words v_p1_roads f_p1_kinds f_p1_sets) H := hP
            have hD : va_D A (zW_X6_lookAtAll cI cC cS q_this q_this_fewest q_this_firsts q_this_counts q_this_saidWithout q_this_row q_p1 q_p1_kinds q_p1_sets q_p1_weights q_p1_stocks q_p1_readers q_p1_eighths q_p1_wishes v_this_kind v_this_known v_this_said f_this_fewest f_this_firsts f_this_counts f_this_saidWithout u7 v_p1_words v_p1_roads f_p1_kinds f_p1_sets) := hD
            refine lv_iinc (v := (x3 + (-1))) (lv' := [(3, .int (x3 + (-1))), (4, .int r5), (0, .ref q_this), (1, .ref q_p1), (2, .int x2)]) hx hb dX6_lookAtAll_77 hl (k := 4) rfl (by rfl) (by decide) rfl (fun ls hl => ?_)
            refine lv_goto (tgt := 17) hx hb dX6_lookAtAll_80 (by decide) ?_
            exact ih17 (x3 + (-1)) v_this_said f_this_fewest f_this_firsts f_this_counts f_this_saidWithout u7 _ _ _ hP hD hS (lv_sub hl [2, 3, 4, 0] rfl) hf
          · replace hf := hf.2 c6
            refine lv_aload_n hx hb dX6_lookAtAll_54 rfl (lv_at hl 1 rfl) ?_
            refine lv_iload hx hb dX6_lookAtAll_55 (lv_at hl 0 rfl) ?_
            refine lv_iload_n hx hb dX6_lookAtAll_57 rfl (lv_at hl 3 rfl) ?_
            refine lv_aload_n hx hb dX6_lookAtAll_58 rfl (lv_at hl 2 rfl) ?_
            refine va_get (D := (dC, dI)) (ci := 7) (v := .int v_p1_words) (C := RX8) (T := TX8) (N := 9) hx hb hts inX8 hown hK hP 6 rfl rfl 4 (by decide) lk2 (fun _ h9 => h9) rfl dX6_lookAtAll_59 ?_
            refine z_Vv (n := 3) (As := [.int r5, .int x2, .int v_p1_words]) (rest := []) ⟨hx, hb, hml, hown, hts⟩ (c_X6_note l dC dI cI cC cS q_this q_this_fewest q_this_firsts q_this_counts q_this_saidWithout q_this_row _ v_this_kind v_this_known v_this_said f_this_fewest f_this_firsts f_this_counts f_this_saidWithout f_this_row r5 x2 v_p1_words N _  hf) gX6_lookAtAll_X6_note rfl rfl rfl (by decide +kernel) ⟨Nat.le_of_ble_eq_true rfl, Nat.le_of_ble_eq_true rfl⟩ hK hP hD hS hA 0 5 rfl rfl rfl hl.1 rfl (Nat.le_of_ble_eq_true rfl) dX6_lookAtAll_62 ⟨Nat.zero_le _, Nat.zero_le _⟩ [0, 1, 2, 3, 4, 5] [6, 7, 8] (([(q_p1, .inr (7, [.ref q_p1_kinds, .ref q_p1_sets, .ref q_p1_weights, .ref q_p1_stocks, .int v_p1_words, .ref q_p1_readers, .ref q_p1_eighths, .ref q_p1_wishes, .int v_p1_roads])), (q_p1_kinds, .inl (cI, 6, .inl f_p1_kinds)), (q_p1_sets, .inl (cI, 6, .inl f_p1_sets))] : va_W)) rfl rfl (by decide) (by decide) (by decide) (fun u => (zW_X6_lookAtAll cI cC cS q_this q_this_fewest q_this_firsts q_this_counts q_this_saidWithout q_this_row q_p1 q_p1_kinds q_p1_sets q_p1_weights q_p1_stocks q_p1_readers q_p1_eighths q_p1_wishes v_this_kind v_this_known u.1 u.2.1 u.2.2.1 u.2.2.2.1 u.2.2.2.2 f_this_row v_p1_words v_p1_roads f_p1_kinds f_p1_sets)) [3, 4, 5, 6, 7, 8, 0, 1, 2] (fun u => rfl) (by decide) (fun u8 H locs hf hP hD hS => ?_)
            have hP : va_P (dC, dI) vwCl (zW_X6_lookAtAll cI cC cS q_this q_this_fewest q_this_firsts q_this_counts q_this_saidWithout q_this_row q_p1 q_p1_kinds q_p1_sets q_p1_weights q_p1_stocks q_p1_readers q_p1_eighths q_p1_wishes v_this_kind v_this_known u8.1 u8.2.1 u8.2.2.1 u8.2.2.2.1 u8.2.2.2.2 f_this_row v_p1_words v_p1_roads f_p1_kinds f_p1_sets) H := hP
            have hD : va_D A (zW_X6_lookAtAll cI cC cS q_this q_this_fewest q_this_firsts q_this_counts q_this_saidWithout q_this_row q_p1 q_p1_kinds q_p1_sets q_p1_weights q_p1_stocks q_p1_readers q_p1_eighths q_p1_wishes v_this_kind v_this_known u8.1 u8.2.1 u8.2.2.1 u8.2.2.2.1 u8.2.2.2.2 f_this_row v_p1_words v_p1_roads f_p1_kinds f_p1_sets) := hD
            refine lv_aload_n hx hb dX6_lookAtAll_65 rfl (lv_at hl 1 rfl) ?_
            refine va_get (D := (dC, dI)) (ci := 5) (v := .ref q_this_row) (C := RX6) (T := TX6) (N := 8) hx hb hts inX6 hown hK hP 0 rfl rfl 7 (by decide) lk1 (fun _ h9 => h9) rfl dX6_lookAtAll_66 ?_
            refine lv_iload_n hx hb dX6_lookAtAll_69 rfl (lv_at hl 3 rfl) ?_
            refine lv_aload_n hx hb dX6_lookAtAll_70 rfl (lv_at hl 2 rfl) ?_
            refine va_get (D := (dC, dI)) (ci := 7) (v := .int v_p1_words) (C := RX8) (T := TX8) (N := 9) hx hb hts inX8 hown hK hP 6 rfl rfl 4 (by decide) lk2 (fun _ h9 => h9) rfl dX6_lookAtAll_71 ?_
            refine z_Sv (n := 3) (As := [.ref q_this_row, .int x2, .int v_p1_words]) (rest := []) ⟨hx, hb, hml, hown, hts⟩ (c_X5_step l dC dI cI cC cS q_this_row _ 5 f_this_row x2 v_p1_words N _  hf) gX6_lookAtAll_X5_step rfl rfl rfl (by decide +kernel) ⟨Nat.le_of_ble_eq_true rfl, Nat.le_of_ble_eq_true rfl⟩ hK hP hD hS hA rfl hl.1 rfl (Nat.le_of_ble_eq_true rfl) dX6_lookAtAll_74 ⟨Nat.zero_le _, Nat.zero_le _⟩ [5] [0, 1, 2, 3, 4, 6, 7, 8] (([(q_this, .inr (5, [.int v_this_kind, .int v_this_known, .ref q_this_fewest, .ref q_this_firsts, .ref q_this_counts, .int u8.1, .ref q_this_saidWithout, .ref q_this_row])), (q_this_fewest, .inl (cI, 16, .inl u8.2.1)), (q_this_firsts, .inl (cI, 80, .inl u8.2.2.1)), (q_this_counts, .inl (cI, 6, .inl u8.2.2.2.1)), (q_this_saidWithout, .inl (cI, 6, .inl u8.2.2.2.2)), (q_p1, .inr (7, [.ref q_p1_kinds, .ref q_p1_sets, .ref q_p1_weights, .ref q_p1_stocks, .int v_p1_words, .ref q_p1_readers, .ref q_p1_eighths, .ref q_p1_wishes, .int v_p1_roads])), (q_p1_kinds, .inl (cI, 6, .inl f_p1_kinds)), (q_p1_sets, .inl (cI, 6, .inl f_p1_sets))] : va_W)) rfl rfl (by decide) (by decide) (by decide) (fun u => (zW_X6_lookAtAll cI cC cS q_this q_this_fewest q_this_firsts q_this_counts q_this_saidWithout q_this_row q_p1 q_p1_kinds q_p1_sets q_p1_weights q_p1_stocks q_p1_readers q_p1_eighths q_p1_wishes v_this_kind v_this_known u8.1 u8.2.1 u8.2.2.1 u8.2.2.2.1 u8.2.2.2.2 u v_p1_words v_p1_roads f_p1_kinds f_p1_sets)) [0, 1, 2, 3, 4, 8, 5, 6, 7] (fun u => rfl) (by decide) (fun u9 H locs hf hP hD hS => ?_)
            have hP : va_P (dC, dI) vwCl (zW_X6_lookAtAll cI cC cS q_this q_this_fewest q_this_firsts q_this_counts q_this_saidWithout q_this_row q_p1 q_p1_kinds q_p1_sets q_p1_weights q_p1_stocks q_p1_readers q_p1_eighths q_p1_wishes v_this_kind v_this_known u8.1 u8.2.1 u8.2.2.1 u8.2.2.2.1 u8.2.2.2.2 u9 v_p1_words v_p1_roads f_p1_kinds f_p1_sets) H := hP
            have hD : va_D A (zW_X6_lookAtAll cI cC cS q_this q_this_fewest q_this_firsts q_this_counts q_this_saidWithout q_this_row q_p1 q_p1_kinds q_p1_sets q_p1_weights q_p1_stocks q_p1_readers q_p1_eighths q_p1_wishes v_this_kind v_this_known u8.1 u8.2.1 u8.2.2.1 u8.2.2.2.1 u8.2.2.2.2 u9 v_p1_words v_p1_roads f_p1_kinds f_p1_sets) := hD
            refine lv_iinc (v := (x3 + (-1))) (lv' := [(3, .int (x3 + (-1))), (4, .int r5), (0, .ref q_this), (1, .ref q_p1), (2, .int x2)]) hx hb dX6_lookAtAll_77 hl (k := 4) rfl (by rfl) (by decide) rfl (fun ls hl => ?_)
            refine lv_goto (tgt := 17) hx hb dX6_lookAtAll_80 (by decide) ?_
            exact ih17 (x3 + (-1)) u8.1 u8.2.1 u8.2.2.1 u8.2.2.2.1 u8.2.2.2.2 u9 _ _ _ hP hD hS (lv_sub hl [2, 3, 4, 0] rfl) hf
  unfold wp_X6_lookAtAll at hf
  refine lv_aload_n hx hb dX6_lookAtAll_0 rfl (lv_at hl 0 rfl) ?_
  refine va_get (D := (dC, dI)) (ci := 5) (v := .ref q_this_row) (C := RX6) (T := TX6) (N := 8) hx hb hts inX6 hown hK hP 0 rfl rfl 7 (by decide) lk1 (fun _ h9 => h9) rfl dX6_lookAtAll_1 ?_
  refine lv_iload_n hx hb dX6_lookAtAll_4 rfl (lv_at hl 2 rfl) ?_
  refine z_Sv (n := 2) (As := [.ref q_this_row, .int x2]) (rest := []) ⟨hx, hb, hml, hown, hts⟩ (c_X5_begin l dC dI cI cC cS q_this_row _ 5 f_this_row x2 N _  hf) gX6_lookAtAll_X5_begin rfl rfl rfl (by decide +kernel) ⟨Nat.le_of_ble_eq_true rfl, Nat.le_of_ble_eq_true rfl⟩ hK hP hD hS hA rfl hl.1 rfl (Nat.le_of_ble_eq_true rfl) dX6_lookAtAll_5 ⟨Nat.zero_le _, Nat.zero_le _⟩ [5] [0, 1, 2, 3, 4, 6, 7, 8] (([(q_this, .inr (5, [.int v_this_kind, .int v_this_known, .ref q_this_fewest, .ref q_this_firsts, .ref q_this_counts, .int v_this_said, .ref q_this_saidWithout, .ref q_this_row])), (q_this_fewest, .inl (cI, 16, .inl f_this_fewest)), (q_this_firsts, .inl (cI, 80, .inl f_this_firsts)), (q_this_counts, .inl (cI, 6, .inl f_this_counts)), (q_this_saidWithout, .inl (cI, 6, .inl f_this_saidWithout)), (q_p1, .inr (7, [.ref q_p1_kinds, .ref q_p1_sets, .ref q_p1_weights, .ref q_p1_stocks, .int v_p1_words, .ref q_p1_readers, .ref q_p1_eighths, .ref q_p1_wishes, .int v_p1_roads])), (q_p1_kinds, .inl (cI, 6, .inl f_p1_kinds)), (q_p1_sets, .inl (cI, 6, .inl f_p1_sets))] : va_W)) rfl rfl (by decide) (by decide) (by decide) (fun u => (zW_X6_lookAtAll cI cC cS q_this q_this_fewest q_this_firsts q_this_counts q_this_saidWithout q_this_row q_p1 q_p1_kinds q_p1_sets q_p1_weights q_p1_stocks q_p1_readers q_p1_eighths q_p1_wishes v_this_kind v_this_known v_this_said f_this_fewest f_this_firsts f_this_counts f_this_saidWithout u v_p1_words v_p1_roads f_p1_kinds f_p1_sets)) [0, 1, 2, 3, 4, 8, 5, 6, 7] (fun u => rfl) (by decide) (fun u1 H locs hf hP hD hS => ?_)
  have hP : va_P (dC, dI) vwCl (zW_X6_lookAtAll cI cC cS q_this q_this_fewest q_this_firsts q_this_counts q_this_saidWithout q_this_row q_p1 q_p1_kinds q_p1_sets q_p1_weights q_p1_stocks q_p1_readers q_p1_eighths q_p1_wishes v_this_kind v_this_known v_this_said f_this_fewest f_this_firsts f_this_counts f_this_saidWithout u1 v_p1_words v_p1_roads f_p1_kinds f_p1_sets) H := hP
  have hD : va_D A (zW_X6_lookAtAll cI cC cS q_this q_this_fewest q_this_firsts q_this_counts q_this_saidWithout q_this_row q_p1 q_p1_kinds q_p1_sets q_p1_weights q_p1_stocks q_p1_readers q_p1_eighths q_p1_wishes v_this_kind v_this_known v_this_said f_this_fewest f_this_firsts f_this_counts f_this_saidWithout u1 v_p1_words v_p1_roads f_p1_kinds f_p1_sets) := hD
  refine lv_aload_n hx hb dX6_lookAtAll_8 rfl (lv_at hl 1 rfl) ?_
  refine va_get (D := (dC, dI)) (ci := 7) (v := .int v_p1_words) (C := RX8) (T := TX8) (N := 9) hx hb hts inX8 hown hK hP 6 rfl rfl 4 (by decide) lk2 (fun _ h9 => h9) rfl dX6_lookAtAll_9 ?_
  refine lv_iload_n hx hb dX6_lookAtAll_12 rfl (lv_at hl 2 rfl) ?_
  refine z_Si (n := 2) (As := [.int v_p1_words, .int x2]) (rest := []) ⟨hx, hb, hml, hown, hts⟩ (c_X5_howMany l dC dI cI cC cS  _  v_p1_words x2 N _  hf) gX6_lookAtAll_X5_howMany rfl rfl rfl (by decide +kernel) ⟨Nat.le_of_ble_eq_true rfl, Nat.le_of_ble_eq_true rfl⟩ hK hP hD hS hA rfl hl.1 rfl (Nat.le_of_ble_eq_true rfl) dX6_lookAtAll_13 ⟨Nat.zero_le _, Nat.zero_le _⟩ [] [0, 1, 2, 3, 4, 5, 6, 7, 8] (([(q_this, .inr (5, [.int v_this_kind, .int v_this_known, .ref q_this_fewest, .ref q_this_firsts, .ref q_this_counts, .int v_this_said, .ref q_this_saidWithout, .ref q_this_row])), (q_this_fewest, .inl (cI, 16, .inl f_this_fewest)), (q_this_firsts, .inl (cI, 80, .inl f_this_firsts)), (q_this_counts, .inl (cI, 6, .inl f_this_counts)), (q_this_saidWithout, .inl (cI, 6, .inl f_this_saidWithout)), (q_this_row, .inl (cI, 5, .inl u1)), (q_p1, .inr (7, [.ref q_p1_kinds, .ref q_p1_sets, .ref q_p1_weights, .ref q_p1_stocks, .int v_p1_words, .ref q_p1_readers, .ref q_p1_eighths, .ref q_p1_wishes, .int v_p1_roads])), (q_p1_kinds, .inl (cI, 6, .inl f_p1_kinds)), (q_p1_sets, .inl (cI, 6, .inl f_p1_sets))] : va_W)) rfl rfl (by decide) (by decide) (by decide) (fun u => (zW_X6_lookAtAll cI cC cS q_this q_this_fewest q_this_firsts q_this_counts q_this_saidWithout q_this_row q_p1 q_p1_kinds q_p1_sets q_p1_weights q_p1_stocks q_p1_readers q_p1_eighths q_p1_wishes v_this_kind v_this_known v_this_said f_this_fewest f_this_firsts f_this_counts f_this_saidWithout u1 v_p1_words v_p1_roads f_p1_kinds f_p1_sets)) [0, 1, 2, 3, 4, 5, 6, 7, 8] (fun u => rfl) (by decide) (fun r2 u2 H locs hf hP hD hS => ?_)
  have hP : va_P (dC, dI) vwCl (zW_X6_lookAtAll cI cC cS q_this q_this_fewest q_this_firsts q_this_counts q_this_saidWithout q_this_row q_p1 q_p1_kinds q_p1_sets q_p1_weights q_p1_stocks q_p1_readers q_p1_eighths q_p1_wishes v_this_kind v_this_known v_this_said f_this_fewest f_this_firsts f_this_counts f_this_saidWithout u1 v_p1_words v_p1_roads f_p1_kinds f_p1_sets) H := hP
  have hD : va_D A (zW_X6_lookAtAll cI cC cS q_this q_this_fewest q_this_firsts q_this_counts q_this_saidWithout q_this_row q_p1 q_p1_kinds q_p1_sets q_p1_weights q_p1_stocks q_p1_readers q_p1_eighths q_p1_wishes v_this_kind v_this_known v_this_said f_this_fewest f_this_firsts f_this_counts f_this_saidWithout u1 v_p1_words v_p1_roads f_p1_kinds f_p1_sets) := hD
  refine lv_istore_n (lv' := [(3, .int r2), (0, .ref q_this), (1, .ref q_p1), (2, .int x2)]) hx hb dX6_lookAtAll_16 rfl hl (by decide) rfl (fun ls hl => ?_)
  exact L17  N r2 v_this_said f_this_fewest f_this_firsts f_this_counts f_this_saidWithout u1 _ _ _ hP hD hS (lv_sub hl [1, 2, 3, 0] rfl) hf
def lp_X6_look_39 (N : Nat) (v_this_kind : Int32) (v_this_known : Int32) (v_p1_words : Int32) (f_p1_kinds : Nat → Int32) (f_p1_sets : Nat → Int32) (Φ : Int32 → Int32 → (Nat → Int32) → (Nat → Int32) → (Nat → Int32) → (Nat → Int32) → (Nat → Int32) → Prop) : Nat → Int32 → Int32 → (Nat → Int32) → (Nat → Int32) → (Nat → Int32) → (Nat → Int32) → (Nat → Int32) → Prop
  | 0, _, _, _, _, _, _, _ => False
  | n + 1, x2, v_this_said, f_this_fewest, f_this_firsts, f_this_counts, f_this_saidWithout, f_this_row => 
    ((5 < x2 → Φ 1 v_this_said f_this_fewest f_this_firsts f_this_counts f_this_saidWithout f_this_row) ∧
     (¬ (5 < x2) → wp_X6_lookAtAll N x2 v_this_kind v_this_said f_this_fewest f_this_firsts f_this_counts f_this_saidWithout f_this_row v_p1_words f_p1_kinds f_p1_sets (fun o2_0 o2_1 o2_2 o2_3 o2_4 o2_5 => 
     (lp_X6_look_39 N v_this_kind v_this_known v_p1_words f_p1_kinds f_p1_sets Φ n) (x2 + 1) o2_0 o2_1 o2_2 o2_3 o2_4 o2_5)))
def wp_X6_look (N : Nat) (v_this_kind : Int32) (v_this_known : Int32) (v_this_said : Int32) (f_this_fewest : Nat → Int32) (f_this_firsts : Nat → Int32) (f_this_counts : Nat → Int32) (f_this_saidWithout : Nat → Int32) (f_this_row : Nat → Int32) (v_p1_words : Int32) (f_p1_kinds : Nat → Int32) (f_p1_sets : Nat → Int32) (Φ : Int32 → Int32 → (Nat → Int32) → (Nat → Int32) → (Nat → Int32) → (Nat → Int32) → (Nat → Int32) → Prop) : Prop := 
    ((v_this_known = 0 → wp_J7_fill_53178 N 16 0 f_this_fewest (fun o2_0 => 
     wp_J7_fill_53178 N 6 0 f_this_counts (fun o3_0 => 
     wp_J7_fill_53178 N 6 0 f_this_saidWithout (fun o4_0 => 
     lp_X6_look_39 N v_this_kind v_this_known v_p1_words f_p1_kinds f_p1_sets Φ N 1 0 o2_0 f_this_firsts o3_0 o4_0 f_this_row)))) ∧
     (¬ (v_this_known = 0) → Φ v_this_known v_this_said f_this_fewest f_this_firsts f_this_counts f_this_saidWithout f_this_row))
abbrev zW_X6_look (cI cC cS : ClassId) (q_this : Nat) (q_this_fewest : Nat) (q_this_firsts : Nat) (q_this_counts : Nat) (q_this_saidWithout : Nat) (q_this_row : Nat) (q_p1 : Nat) (q_p1_kinds : Nat) (q_p1_sets : Nat) (q_p1_weights : Nat) (q_p1_stocks : Nat) (q_p1_readers : Nat) (q_p1_eighths : Nat) (q_p1_wishes : Nat) (v_this_kind : Int32) (v_this_known : Int32) (v_this_said : Int32) (f_this_fewest : Nat → Int32) (f_this_firsts : Nat → Int32) (f_this_counts : Nat → Int32) (f_this_saidWithout : Nat → Int32) (f_this_row : Nat → Int32) (v_p1_words : Int32) (v_p1_roads : Int32) (f_p1_kinds : Nat → Int32) (f_p1_sets : Nat → Int32) : va_W := [(q_this, .inr (5, [.int v_this_kind, .int v_this_known, .ref q_this_fewest, .ref q_this_firsts, .ref q_this_counts, .int v_this_said, .ref q_this_saidWithout, .ref q_this_row])),
  (q_this_fewest, .inl (cI, 16, .inl f_this_fewest)),
  (q_this_firsts, .inl (cI, 80, .inl f_this_firsts)),
  (q_this_counts, .inl (cI, 6, .inl f_this_counts)),
  (q_this_saidWithout, .inl (cI, 6, .inl f_this_saidWithout)),
  (q_this_row, .inl (cI, 5, .inl f_this_row)),
  (q_p1, .inr (7, [.ref q_p1_kinds, .ref q_p1_sets, .ref q_p1_weights, .ref q_p1_stocks, .int v_p1_words, .ref q_p1_readers, .ref q_p1_eighths, .ref q_p1_wishes, .int v_p1_roads])),
  (q_p1_kinds, .inl (cI, 6, .inl f_p1_kinds)),
  (q_p1_sets, .inl (cI, 6, .inl f_p1_sets))]
abbrev zr_X6_look : Room := { frames := 4, cells := 0, slots := 0, locals := 107 }
set_option maxHeartbeats 4000000 in
set_option maxRecDepth 100000 in
theorem c_X6_look (l : Launch) (dC : Nat → ClassId) (dI : Nat → Nat → Nat) (cI cC cS : ClassId) (q_this : Nat) (q_this_fewest : Nat) (q_this_firsts : Nat) (q_this_counts : Nat) (q_this_saidWithout : Nat) (q_this_row : Nat) (q_p1 : Nat) (q_p1_kinds : Nat) (q_p1_sets : Nat) (q_p1_weights : Nat) (q_p1_stocks : Nat) (q_p1_readers : Nat) (q_p1_eighths : Nat) (q_p1_wishes : Nat) (sz : Nat) (v_this_kind : Int32) (v_this_known : Int32) (v_this_said : Int32) (f_this_fewest : Nat → Int32) (f_this_firsts : Nat → Int32) (f_this_counts : Nat → Int32) (f_this_saidWithout : Nat → Int32) (f_this_row : Nat → Int32) (v_p1_words : Int32) (v_p1_roads : Int32) (f_p1_kinds : Nat → Int32) (f_p1_sets : Nat → Int32) (N : Nat) (Φ : Int32 → Int32 → (Nat → Int32) → (Nat → Int32) → (Nat → Int32) → (Nat → Int32) → (Nat → Int32) → Prop)  (hf : wp_X6_look N v_this_kind v_this_known v_this_said f_this_fewest f_this_firsts f_this_counts f_this_saidWithout f_this_row v_p1_words f_p1_kinds f_p1_sets Φ) : Met l yX6_look wsX6_look zr_X6_look (zPc (dC, dI) (zT cI cC cS) [.ref q_this, .ref q_p1] sz (zW_X6_look cI cC cS q_this q_this_fewest q_this_firsts q_this_counts q_this_saidWithout q_this_row q_p1 q_p1_kinds q_p1_sets q_p1_weights q_p1_stocks q_p1_readers q_p1_eighths q_p1_wishes v_this_kind v_this_known v_this_said f_this_fewest f_this_firsts f_this_counts f_this_saidWithout f_this_row v_p1_words v_p1_roads f_p1_kinds f_p1_sets)) (zQv (dC, dI) (zT cI cC cS) (va_A (zW_X6_look cI cC cS q_this q_this_fewest q_this_firsts q_this_counts q_this_saidWithout q_this_row q_p1 q_p1_kinds q_p1_sets q_p1_weights q_p1_stocks q_p1_readers q_p1_eighths q_p1_wishes v_this_kind v_this_known v_this_said f_this_fewest f_this_firsts f_this_counts f_this_saidWithout f_this_row v_p1_words v_p1_roads f_p1_kinds f_p1_sets) sz) (fun (u : (Int32) × (Int32) × (Nat → Int32) × (Nat → Int32) × (Nat → Int32) × (Nat → Int32) × (Nat → Int32)) => Φ u.1 u.2.1 u.2.2.1 u.2.2.2.1 u.2.2.2.2.1 u.2.2.2.2.2.1 u.2.2.2.2.2.2) (fun u => (zW_X6_look cI cC cS q_this q_this_fewest q_this_firsts q_this_counts q_this_saidWithout q_this_row q_p1 q_p1_kinds q_p1_sets q_p1_weights q_p1_stocks q_p1_readers q_p1_eighths q_p1_wishes v_this_kind u.1 u.2.1 u.2.2.1 u.2.2.2.1 u.2.2.2.2.1 u.2.2.2.2.2.1 u.2.2.2.2.2.2 v_p1_words v_p1_roads f_p1_kinds f_p1_sets))) 0 0 (va_A (zW_X6_look cI cC cS q_this q_this_fewest q_this_firsts q_this_counts q_this_saidWithout q_this_row q_p1 q_p1_kinds q_p1_sets q_p1_weights q_p1_stocks q_p1_readers q_p1_eighths q_p1_wishes v_this_kind v_this_known v_this_said f_this_fewest f_this_firsts f_this_counts f_this_saidWithout f_this_row v_p1_words v_p1_roads f_p1_kinds f_p1_sets) sz) := by
  refine Met.ofW (cc := cX6_look) (maxL := 3) (ret := none) (by decide) rfl ?_
  intro p e s m args below meth c s₁ B hml hv
  obtain ⟨rfl, hsz, hP, hK, hD0⟩ := hv
  have hx := B.exec
  have hb := B.bytes
  have hr := B.returns
  have hts := atoms_spec (ws := wsX6_look) B.pre
  have hown : s.vm.findClass RX6 = some m.cls := findClass_of_methodNamed B.named
  have hlocks := B.notSynchronized
  subst hsz
  have hD := hD0.self (sz := s.heap.size)
  have hA : ∀ q : Nat, s.heap.size ≤ q → va_A (zW_X6_look cI cC cS q_this q_this_fewest q_this_firsts q_this_counts q_this_saidWithout q_this_row q_p1 q_p1_kinds q_p1_sets q_p1_weights q_p1_stocks q_p1_readers q_p1_eighths q_p1_wishes v_this_kind v_this_known v_this_said f_this_fewest f_this_firsts f_this_counts f_this_saidWithout f_this_row v_p1_words v_p1_roads f_p1_kinds f_p1_sets) s.heap.size q := fun q h => Or.inr h
  generalize va_A (zW_X6_look cI cC cS q_this q_this_fewest q_this_firsts q_this_counts q_this_saidWithout q_this_row q_p1 q_p1_kinds q_p1_sets q_p1_weights q_p1_stocks q_p1_readers q_p1_eighths q_p1_wishes v_this_kind v_this_known v_this_said f_this_fewest f_this_firsts f_this_counts f_this_saidWithout f_this_row v_p1_words v_p1_roads f_p1_kinds f_p1_sets) s.heap.size = A at hD hA ⊢
  have hS : va_S A s.heap s.heap [] := va_S.rf
  have hl := lv_entry ([.ref q_this, .ref q_p1]) (n := 3) (Nat.le_of_ble_eq_true rfl)
  rw [lg_entry_eq]
  generalize (lg_sl ([.ref q_this, .ref q_p1]) ++ List.replicate (3 - (lg_sl ([.ref q_this, .ref q_p1])).length) Slot.unset).toArray = ls at hl ⊢
  have hl : lv_has ls 3 [(0, .ref q_this), (1, .ref q_p1)] := hl
  have lk1 := hts (.fieldLink RX6 15 "ReadFromAnywhere$Survey" "known" "Z") (List.mem_of_getElem? (i := 1) rfl)
  have inX6 : ∀ w ∈ u_ws RX6 TX6 8, w ∈ wsX6_look := fun _ h => List.mem_cons_of_mem _ (List.mem_append_left _ (List.mem_append_right _ h))
  have lk2 := hts (.fieldLink RX6 19 "ReadFromAnywhere$Survey" "fewest" "[I") (List.mem_of_getElem? (i := 2) rfl)
  have lk3 := hts (.fieldLink RX6 26 "ReadFromAnywhere$Survey" "counts" "[I") (List.mem_of_getElem? (i := 3) rfl)
  have lk4 := hts (.fieldLink RX6 32 "ReadFromAnywhere$Survey" "saidWithout" "[I") (List.mem_of_getElem? (i := 4) rfl)
  have lk5 := hts (.fieldLink RX6 29 "ReadFromAnywhere$Survey" "said" "I") (List.mem_of_getElem? (i := 5) rfl)
  have L39 : ∀ (v_this_known : Int32), ∀ (n39 : Nat) (x2 : Int32) (v_this_said : Int32) (f_this_fewest : Nat → Int32) (f_this_firsts : Nat → Int32) (f_this_counts : Nat → Int32) (f_this_saidWithout : Nat → Int32) (f_this_row : Nat → Int32), ∀ (H : Heap) (locs : List Loc) (ls : Array Slot), va_P (dC, dI) vwCl (zW_X6_look cI cC cS q_this q_this_fewest q_this_firsts q_this_counts q_this_saidWithout q_this_row q_p1 q_p1_kinds q_p1_sets q_p1_weights q_p1_stocks q_p1_readers q_p1_eighths q_p1_wishes v_this_kind v_this_known v_this_said f_this_fewest f_this_firsts f_this_counts f_this_saidWithout f_this_row v_p1_words v_p1_roads f_p1_kinds f_p1_sets) H → va_D A (zW_X6_look cI cC cS q_this q_this_fewest q_this_firsts q_this_counts q_this_saidWithout q_this_row q_p1 q_p1_kinds q_p1_sets q_p1_weights q_p1_stocks q_p1_readers q_p1_eighths q_p1_wishes v_this_kind v_this_known v_this_said f_this_fewest f_this_firsts f_this_counts f_this_saidWithout f_this_row v_p1_words v_p1_roads f_p1_kinds f_p1_sets) → va_S A s.heap H locs → lv_has ls 3 [(0, .ref q_this), (1, .ref q_p1), (2, .int x2)] → lp_X6_look_39 N v_this_kind v_this_known v_p1_words f_p1_kinds f_p1_sets Φ n39 x2 v_this_said f_this_fewest f_this_firsts f_this_counts f_this_saidWithout f_this_row → W p l e (headSpec wsX6_look zr_X6_look).room s m ([.ref q_this, .ref q_p1] : List Value).toArray below meth c H locs 0 0 (MQ below (zQv (dC, dI) (zT cI cC cS) A (fun (u : (Int32) × (Int32) × (Nat → Int32) × (Nat → Int32) × (Nat → Int32) × (Nat → Int32) × (Nat → Int32)) => Φ u.1 u.2.1 u.2.2.1 u.2.2.2.1 u.2.2.2.2.1 u.2.2.2.2.2.1 u.2.2.2.2.2.2) (fun u => (zW_X6_look cI cC cS q_this q_this_fewest q_this_firsts q_this_counts q_this_saidWithout q_this_row q_p1 q_p1_kinds q_p1_sets q_p1_weights q_p1_stocks q_p1_readers q_p1_eighths q_p1_wishes v_this_kind u.1 u.2.1 u.2.2.1 u.2.2.2.1 u.2.2.2.2.1 u.2.2.2.2.2.1 u.2.2.2.2.2.2 v_p1_words v_p1_roads f_p1_kinds f_p1_sets))) ([.ref q_this, .ref q_p1] : List Value).toArray s 0 0 A) (F0 m 39 ls []) := by
    intro v_this_known
    intro n39
    induction n39 with
    | zero =>
      intro x2 v_this_said f_this_fewest f_this_firsts f_this_counts f_this_saidWithout f_this_row H locs ls hP hD hS hl hf
      exact absurd hf (by rw [lp_X6_look_39]; exact id)
    | succ n39 ih39 =>
      intro x2 v_this_said f_this_fewest f_this_firsts f_this_counts f_this_saidWithout f_this_row H locs ls hP hD hS hl hf
      rw [lp_X6_look_39] at hf
      refine lv_iload_n hx hb dX6_look_39 rfl (lv_at hl 2 rfl) ?_
      refine lv_iconst (v := 5) hx hb dX6_look_40 (by decide) ?_
      refine lv_icmp_gt (tgt := 56) hx hb dX6_look_41 (by decide) (fun c1 => ?_) (fun c1 => ?_)
      · replace hf := hf.1 c1
        refine lv_aload_n hx hb dX6_look_56 rfl (lv_at hl 0 rfl) ?_
        refine lv_iconst (v := 1) hx hb dX6_look_57 (by decide) ?_
        refine va_put (D := (dC, dI)) (ci := 5) (v := .int 1) (ty := .boolean) (C := RX6) (T := TX6) (N := 8) hx hb hts inX6 tyX6 tyX6_ok nmX6 hown hK hP hD hS 0 rfl rfl 1 (by decide) lk1 (fun _ h9 => h9) rfl (by decide +kernel) rfl rfl (Nat.le_of_ble_eq_true rfl) dX6_look_58 (fun H locs hP hD hS => ?_)
        have hP : va_P (dC, dI) vwCl (zW_X6_look cI cC cS q_this q_this_fewest q_this_firsts q_this_counts q_this_saidWithout q_this_row q_p1 q_p1_kinds q_p1_sets q_p1_weights q_p1_stocks q_p1_readers q_p1_eighths q_p1_wishes v_this_kind 1 v_this_said f_this_fewest f_this_firsts f_this_counts f_this_saidWithout f_this_row v_p1_words v_p1_roads f_p1_kinds f_p1_sets) H := hP
        have hD : va_D A (zW_X6_look cI cC cS q_this q_this_fewest q_this_firsts q_this_counts q_this_saidWithout q_this_row q_p1 q_p1_kinds q_p1_sets q_p1_weights q_p1_stocks q_p1_readers q_p1_eighths q_p1_wishes v_this_kind 1 v_this_said f_this_fewest f_this_firsts f_this_counts f_this_saidWithout f_this_row v_p1_words v_p1_roads f_p1_kinds f_p1_sets) := hD
        exact z_vret hx hb hr hlocks (1, v_this_said, f_this_fewest, f_this_firsts, f_this_counts, f_this_saidWithout, f_this_row) hf hK hP hD hS dX6_look_61
      · replace hf := hf.2 c1
        refine lv_aload_n hx hb dX6_look_44 rfl (lv_at hl 0 rfl) ?_
        refine lv_aload_n hx hb dX6_look_45 rfl (lv_at hl 1 rfl) ?_
        refine lv_iload_n hx hb dX6_look_46 rfl (lv_at hl 2 rfl) ?_
        refine z_Vv (n := 2) (As := [.ref q_p1, .int x2]) (rest := []) ⟨hx, hb, hml, hown, hts⟩ (c_X6_lookAtAll l dC dI cI cC cS q_this q_this_fewest q_this_firsts q_this_counts q_this_saidWithout q_this_row q_p1 q_p1_kinds q_p1_sets q_p1_weights q_p1_stocks q_p1_readers q_p1_eighths q_p1_wishes _ v_this_kind v_this_known v_this_said f_this_fewest f_this_firsts f_this_counts f_this_saidWithout f_this_row v_p1_words v_p1_roads f_p1_kinds f_p1_sets x2 N _  hf) gX6_look_X6_lookAtAll rfl rfl rfl (by decide +kernel) ⟨Nat.le_of_ble_eq_true rfl, Nat.le_of_ble_eq_true rfl⟩ hK hP hD hS hA 0 5 rfl rfl rfl hl.1 rfl (Nat.le_of_ble_eq_true rfl) dX6_look_47 ⟨Nat.zero_le _, Nat.zero_le _⟩ [0, 1, 2, 3, 4, 5, 6, 7, 8] [] (([] : va_W)) rfl rfl (by decide) (by decide) (by decide) (fun u => (zW_X6_look cI cC cS q_this q_this_fewest q_this_firsts q_this_counts q_this_saidWithout q_this_row q_p1 q_p1_kinds q_p1_sets q_p1_weights q_p1_stocks q_p1_readers q_p1_eighths q_p1_wishes v_this_kind v_this_known u.1 u.2.1 u.2.2.1 u.2.2.2.1 u.2.2.2.2.1 u.2.2.2.2.2 v_p1_words v_p1_roads f_p1_kinds f_p1_sets)) [0, 1, 2, 3, 4, 5, 6, 7, 8] (fun u => rfl) (by decide) (fun u2 H locs hf hP hD hS => ?_)
        have hP : va_P (dC, dI) vwCl (zW_X6_look cI cC cS q_this q_this_fewest q_this_firsts q_this_counts q_this_saidWithout q_this_row q_p1 q_p1_kinds q_p1_sets q_p1_weights q_p1_stocks q_p1_readers q_p1_eighths q_p1_wishes v_this_kind v_this_known u2.1 u2.2.1 u2.2.2.1 u2.2.2.2.1 u2.2.2.2.2.1 u2.2.2.2.2.2 v_p1_words v_p1_roads f_p1_kinds f_p1_sets) H := hP
        have hD : va_D A (zW_X6_look cI cC cS q_this q_this_fewest q_this_firsts q_this_counts q_this_saidWithout q_this_row q_p1 q_p1_kinds q_p1_sets q_p1_weights q_p1_stocks q_p1_readers q_p1_eighths q_p1_wishes v_this_kind v_this_known u2.1 u2.2.1 u2.2.2.1 u2.2.2.2.1 u2.2.2.2.2.1 u2.2.2.2.2.2 v_p1_words v_p1_roads f_p1_kinds f_p1_sets) := hD
        refine lv_iinc (v := (x2 + 1)) (lv' := [(2, .int (x2 + 1)), (0, .ref q_this), (1, .ref q_p1)]) hx hb dX6_look_50 hl (k := 2) rfl (by rfl) (by decide) rfl (fun ls hl => ?_)
        refine lv_goto (tgt := 39) hx hb dX6_look_53 (by decide) ?_
        exact ih39 (x2 + 1) u2.1 u2.2.1 u2.2.2.1 u2.2.2.2.1 u2.2.2.2.2.1 u2.2.2.2.2.2 _ _ _ hP hD hS (lv_sub hl [1, 2, 0] rfl) hf
  unfold wp_X6_look at hf
  refine lv_aload_n hx hb dX6_look_0 rfl (lv_at hl 0 rfl) ?_
  refine va_get (D := (dC, dI)) (ci := 5) (v := .int v_this_known) (C := RX6) (T := TX6) (N := 8) hx hb hts inX6 hown hK hP 0 rfl rfl 1 (by decide) lk1 (fun _ h9 => h9) rfl dX6_look_1 ?_
  refine lv_if_eq (tgt := 8) hx hb dX6_look_4 (by decide) (fun c1 => ?_) (fun c1 => ?_)
  · replace hf := hf.1 c1
    refine lv_aload_n hx hb dX6_look_8 rfl (lv_at hl 0 rfl) ?_
    refine va_get (D := (dC, dI)) (ci := 5) (v := .ref q_this_fewest) (C := RX6) (T := TX6) (N := 8) hx hb hts inX6 hown hK hP 0 rfl rfl 2 (by decide) lk2 (fun _ h9 => h9) rfl dX6_look_9 ?_
    refine lv_iconst (v := 0) hx hb dX6_look_12 (by decide) ?_
    refine z_Sv (n := 2) (As := [.ref q_this_fewest, .int 0]) (rest := []) ⟨hx, hb, hml, hown, hts⟩ (c_J7_fill_53178 l dC dI cI cC cS q_this_fewest _ 16 f_this_fewest 0 N _  hf) gX6_look_J7_fill_53178 rfl rfl rfl (by decide +kernel) ⟨Nat.le_of_ble_eq_true rfl, Nat.le_of_ble_eq_true rfl⟩ hK hP hD hS hA rfl hl.1 rfl (Nat.le_of_ble_eq_true rfl) dX6_look_13 ⟨Nat.zero_le _, Nat.zero_le _⟩ [1] [0, 2, 3, 4, 5, 6, 7, 8] (([(q_this, .inr (5, [.int v_this_kind, .int v_this_known, .ref q_this_fewest, .ref q_this_firsts, .ref q_this_counts, .int v_this_said, .ref q_this_saidWithout, .ref q_this_row])), (q_this_firsts, .inl (cI, 80, .inl f_this_firsts)), (q_this_counts, .inl (cI, 6, .inl f_this_counts)), (q_this_saidWithout, .inl (cI, 6, .inl f_this_saidWithout)), (q_this_row, .inl (cI, 5, .inl f_this_row)), (q_p1, .inr (7, [.ref q_p1_kinds, .ref q_p1_sets, .ref q_p1_weights, .ref q_p1_stocks, .int v_p1_words, .ref q_p1_readers, .ref q_p1_eighths, .ref q_p1_wishes, .int v_p1_roads])), (q_p1_kinds, .inl (cI, 6, .inl f_p1_kinds)), (q_p1_sets, .inl (cI, 6, .inl f_p1_sets))] : va_W)) rfl rfl (by decide) (by decide) (by decide) (fun u => (zW_X6_look cI cC cS q_this q_this_fewest q_this_firsts q_this_counts q_this_saidWithout q_this_row q_p1 q_p1_kinds q_p1_sets q_p1_weights q_p1_stocks q_p1_readers q_p1_eighths q_p1_wishes v_this_kind v_this_known v_this_said u f_this_firsts f_this_counts f_this_saidWithout f_this_row v_p1_words v_p1_roads f_p1_kinds f_p1_sets)) [0, 8, 1, 2, 3, 4, 5, 6, 7] (fun u => rfl) (by decide) (fun u2 H locs hf hP hD hS => ?_)
    have hP : va_P (dC, dI) vwCl (zW_X6_look cI cC cS q_this q_this_fewest q_this_firsts q_this_counts q_this_saidWithout q_this_row q_p1 q_p1_kinds q_p1_sets q_p1_weights q_p1_stocks q_p1_readers q_p1_eighths q_p1_wishes v_this_kind v_this_known v_this_said u2 f_this_firsts f_this_counts f_this_saidWithout f_this_row v_p1_words v_p1_roads f_p1_kinds f_p1_sets) H := hP
    have hD : va_D A (zW_X6_look cI cC cS q_this q_this_fewest q_this_firsts q_this_counts q_this_saidWithout q_this_row q_p1 q_p1_kinds q_p1_sets q_p1_weights q_p1_stocks q_p1_readers q_p1_eighths q_p1_wishes v_this_kind v_this_known v_this_said u2 f_this_firsts f_this_counts f_this_saidWithout f_this_row v_p1_words v_p1_roads f_p1_kinds f_p1_sets) := hD
    refine lv_aload_n hx hb dX6_look_16 rfl (lv_at hl 0 rfl) ?_
    refine va_get (D := (dC, dI)) (ci := 5) (v := .ref q_this_counts) (C := RX6) (T := TX6) (N := 8) hx hb hts inX6 hown hK hP 0 rfl rfl 4 (by decide) lk3 (fun _ h9 => h9) rfl dX6_look_17 ?_
    refine lv_iconst (v := 0) hx hb dX6_look_20 (by decide) ?_
    refine z_Sv (n := 2) (As := [.ref q_this_counts, .int 0]) (rest := []) ⟨hx, hb, hml, hown, hts⟩ (c_J7_fill_53178 l dC dI cI cC cS q_this_counts _ 6 f_this_counts 0 N _  hf) gX6_look_J7_fill_53178 rfl rfl rfl (by decide +kernel) ⟨Nat.le_of_ble_eq_true rfl, Nat.le_of_ble_eq_true rfl⟩ hK hP hD hS hA rfl hl.1 rfl (Nat.le_of_ble_eq_true rfl) dX6_look_21 ⟨Nat.zero_le _, Nat.zero_le _⟩ [3] [0, 1, 2, 4, 5, 6, 7, 8] (([(q_this, .inr (5, [.int v_this_kind, .int v_this_known, .ref q_this_fewest, .ref q_this_firsts, .ref q_this_counts, .int v_this_said, .ref q_this_saidWithout, .ref q_this_row])), (q_this_fewest, .inl (cI, 16, .inl u2)), (q_this_firsts, .inl (cI, 80, .inl f_this_firsts)), (q_this_saidWithout, .inl (cI, 6, .inl f_this_saidWithout)), (q_this_row, .inl (cI, 5, .inl f_this_row)), (q_p1, .inr (7, [.ref q_p1_kinds, .ref q_p1_sets, .ref q_p1_weights, .ref q_p1_stocks, .int v_p1_words, .ref q_p1_readers, .ref q_p1_eighths, .ref q_p1_wishes, .int v_p1_roads])), (q_p1_kinds, .inl (cI, 6, .inl f_p1_kinds)), (q_p1_sets, .inl (cI, 6, .inl f_p1_sets))] : va_W)) rfl rfl (by decide) (by decide) (by decide) (fun u => (zW_X6_look cI cC cS q_this q_this_fewest q_this_firsts q_this_counts q_this_saidWithout q_this_row q_p1 q_p1_kinds q_p1_sets q_p1_weights q_p1_stocks q_p1_readers q_p1_eighths q_p1_wishes v_this_kind v_this_known v_this_said u2 f_this_firsts u f_this_saidWithout f_this_row v_p1_words v_p1_roads f_p1_kinds f_p1_sets)) [0, 1, 2, 8, 3, 4, 5, 6, 7] (fun u => rfl) (by decide) (fun u3 H locs hf hP hD hS => ?_)
    have hP : va_P (dC, dI) vwCl (zW_X6_look cI cC cS q_this q_this_fewest q_this_firsts q_this_counts q_this_saidWithout q_this_row q_p1 q_p1_kinds q_p1_sets q_p1_weights q_p1_stocks q_p1_readers q_p1_eighths q_p1_wishes v_this_kind v_this_known v_this_said u2 f_this_firsts u3 f_this_saidWithout f_this_row v_p1_words v_p1_roads f_p1_kinds f_p1_sets) H := hP
    have hD : va_D A (zW_X6_look cI cC cS q_this q_this_fewest q_this_firsts q_this_counts q_this_saidWithout q_this_row q_p1 q_p1_kinds q_p1_sets q_p1_weights q_p1_stocks q_p1_readers q_p1_eighths q_p1_wishes v_this_kind v_this_known v_this_said u2 f_this_firsts u3 f_this_saidWithout f_this_row v_p1_words v_p1_roads f_p1_kinds f_p1_sets) := hD
    refine lv_aload_n hx hb dX6_look_24 rfl (lv_at hl 0 rfl) ?_
    refine va_get (D := (dC, dI)) (ci := 5) (v := .ref q_this_saidWithout) (C := RX6) (T := TX6) (N := 8) hx hb hts inX6 hown hK hP 0 rfl rfl 6 (by decide) lk4 (fun _ h9 => h9) rfl dX6_look_25 ?_
    refine lv_iconst (v := 0) hx hb dX6_look_28 (by decide) ?_
    refine z_Sv (n := 2) (As := [.ref q_this_saidWithout, .int 0]) (rest := []) ⟨hx, hb, hml, hown, hts⟩ (c_J7_fill_53178 l dC dI cI cC cS q_this_saidWithout _ 6 f_this_saidWithout 0 N _  hf) gX6_look_J7_fill_53178 rfl rfl rfl (by decide +kernel) ⟨Nat.le_of_ble_eq_true rfl, Nat.le_of_ble_eq_true rfl⟩ hK hP hD hS hA rfl hl.1 rfl (Nat.le_of_ble_eq_true rfl) dX6_look_29 ⟨Nat.zero_le _, Nat.zero_le _⟩ [4] [0, 1, 2, 3, 5, 6, 7, 8] (([(q_this, .inr (5, [.int v_this_kind, .int v_this_known, .ref q_this_fewest, .ref q_this_firsts, .ref q_this_counts, .int v_this_said, .ref q_this_saidWithout, .ref q_this_row])), (q_this_fewest, .inl (cI, 16, .inl u2)), (q_this_firsts, .inl (cI, 80, .inl f_this_firsts)), (q_this_counts, .inl (cI, 6, .inl u3)), (q_this_row, .inl (cI, 5, .inl f_this_row)), (q_p1, .inr (7, [.ref q_p1_kinds, .ref q_p1_sets, .ref q_p1_weights, .ref q_p1_stocks, .int v_p1_words, .ref q_p1_readers, .ref q_p1_eighths, .ref q_p1_wishes, .int v_p1_roads])), (q_p1_kinds, .inl (cI, 6, .inl f_p1_kinds)), (q_p1_sets, .inl (cI, 6, .inl f_p1_sets))] : va_W)) rfl rfl (by decide) (by decide) (by decide) (fun u => (zW_X6_look cI cC cS q_this q_this_fewest q_this_firsts q_this_counts q_this_saidWithout q_this_row q_p1 q_p1_kinds q_p1_sets q_p1_weights q_p1_stocks q_p1_readers q_p1_eighths q_p1_wishes v_this_kind v_this_known v_this_said u2 f_this_firsts u3 u f_this_row v_p1_words v_p1_roads f_p1_kinds f_p1_sets)) [0, 1, 2, 3, 8, 4, 5, 6, 7] (fun u => rfl) (by decide) (fun u4 H locs hf hP hD hS => ?_)
    have hP : va_P (dC, dI) vwCl (zW_X6_look cI cC cS q_this q_this_fewest q_this_firsts q_this_counts q_this_saidWithout q_this_row q_p1 q_p1_kinds q_p1_sets q_p1_weights q_p1_stocks q_p1_readers q_p1_eighths q_p1_wishes v_this_kind v_this_known v_this_said u2 f_this_firsts u3 u4 f_this_row v_p1_words v_p1_roads f_p1_kinds f_p1_sets) H := hP
    have hD : va_D A (zW_X6_look cI cC cS q_this q_this_fewest q_this_firsts q_this_counts q_this_saidWithout q_this_row q_p1 q_p1_kinds q_p1_sets q_p1_weights q_p1_stocks q_p1_readers q_p1_eighths q_p1_wishes v_this_kind v_this_known v_this_said u2 f_this_firsts u3 u4 f_this_row v_p1_words v_p1_roads f_p1_kinds f_p1_sets) := hD
    refine lv_aload_n hx hb dX6_look_32 rfl (lv_at hl 0 rfl) ?_
    refine lv_iconst (v := 0) hx hb dX6_look_33 (by decide) ?_
    refine va_put (D := (dC, dI)) (ci := 5) (v := .int 0) (ty := .int) (C := RX6) (T := TX6) (N := 8) hx hb hts inX6 tyX6 tyX6_ok nmX6 hown hK hP hD hS 0 rfl rfl 5 (by decide) lk5 (fun _ h9 => h9) rfl (by decide +kernel) rfl rfl (Nat.le_of_ble_eq_true rfl) dX6_look_34 (fun H locs hP hD hS => ?_)
    have hP : va_P (dC, dI) vwCl (zW_X6_look cI cC cS q_this q_this_fewest q_this_firsts q_this_counts q_this_saidWithout q_this_row q_p1 q_p1_kinds q_p1_sets q_p1_weights q_p1_stocks q_p1_readers q_p1_eighths q_p1_wishes v_this_kind v_this_known 0 u2 f_this_firsts u3 u4 f_this_row v_p1_words v_p1_roads f_p1_kinds f_p1_sets) H := hP
    have hD : va_D A (zW_X6_look cI cC cS q_this q_this_fewest q_this_firsts q_this_counts q_this_saidWithout q_this_row q_p1 q_p1_kinds q_p1_sets q_p1_weights q_p1_stocks q_p1_readers q_p1_eighths q_p1_wishes v_this_kind v_this_known 0 u2 f_this_firsts u3 u4 f_this_row v_p1_words v_p1_roads f_p1_kinds f_p1_sets) := hD
    refine lv_iconst (v := 1) hx hb dX6_look_37 (by decide) ?_
    refine lv_istore_n (lv' := [(2, .int 1), (0, .ref q_this), (1, .ref q_p1)]) hx hb dX6_look_38 rfl hl (by decide) rfl (fun ls hl => ?_)
    exact L39 v_this_known N 1 0 u2 f_this_firsts u3 u4 f_this_row _ _ _ hP hD hS (lv_sub hl [1, 2, 0] rfl) hf
  · replace hf := hf.2 c1
    exact z_vret hx hb hr hlocks (v_this_known, v_this_said, f_this_fewest, f_this_firsts, f_this_counts, f_this_saidWithout, f_this_row) hf hK hP hD hS dX6_look_7
def lp_X10_findHoles_7 (N : Nat) (v_p1_places : Int32) (f_p1_has : Nat → Int32) (Φ : Int32 → (Nat → Int32) → (Nat → Int32) → Prop) : Nat → Int32 → Int32 → (Nat → Int32) → (Nat → Int32) → Prop
  | 0, _, _, _, _ => False
  | n + 1, x2, v_this_blanks, f_this_whole, f_this_holes => 
    ((v_p1_places ≤ x2 → Φ v_this_blanks f_this_whole f_this_holes) ∧
     (¬ (v_p1_places ≤ x2) → (vp_in x2 12 ∧ (vp_in x2 12 ∧ (vp_in x2 12 ∧ (((f_p1_has (Int32.toNatClampNeg x2)) = (-1) → ((4 ≤ v_this_blanks → (lp_X10_findHoles_7 N v_p1_places f_p1_has Φ n) (x2 + 1) v_this_blanks (upd f_this_whole (Int32.toNatClampNeg x2) (f_p1_has (Int32.toNatClampNeg x2))) f_this_holes) ∧
     (¬ (4 ≤ v_this_blanks) → (vp_in v_this_blanks 4 ∧ (lp_X10_findHoles_7 N v_p1_places f_p1_has Φ n) (x2 + 1) (v_this_blanks + 1) (upd f_this_whole (Int32.toNatClampNeg x2) (f_p1_has (Int32.toNatClampNeg x2))) (upd f_this_holes (Int32.toNatClampNeg v_this_blanks) x2))))) ∧
     (¬ ((f_p1_has (Int32.toNatClampNeg x2)) = (-1)) → (lp_X10_findHoles_7 N v_p1_places f_p1_has Φ n) (x2 + 1) v_this_blanks (upd f_this_whole (Int32.toNatClampNeg x2) (f_p1_has (Int32.toNatClampNeg x2))) f_this_holes)))))))
def wp_X10_findHoles (N : Nat) (v_this_blanks : Int32) (f_this_whole : Nat → Int32) (f_this_holes : Nat → Int32) (v_p1_places : Int32) (f_p1_has : Nat → Int32) (Φ : Int32 → (Nat → Int32) → (Nat → Int32) → Prop) : Prop := 
    lp_X10_findHoles_7 N v_p1_places f_p1_has Φ N 0 0 f_this_whole f_this_holes
abbrev zW_X10_findHoles (cI cC cS : ClassId) (q_this : Nat) (q_this_whole : Nat) (q_this_holes : Nat) (q_p1 : Nat) (q_p1_has : Nat) (q_this_bestFill : Nat) (q_this_seen : Nat) (q_this_fill : Nat) (v_this_known : Int32) (v_this_blanks : Int32) (v_this_many : Int32) (v_this_best : Int32) (f_this_whole : Nat → Int32) (f_this_holes : Nat → Int32) (v_p1_places : Int32) (f_p1_has : Nat → Int32) : va_W := [(q_this, .inr (9, [.int v_this_known, .int v_this_blanks, .int v_this_many, .int v_this_best, .ref q_this_bestFill, .ref q_this_seen, .ref q_this_whole, .ref q_this_holes, .ref q_this_fill])),
  (q_this_whole, .inl (cI, 12, .inl f_this_whole)),
  (q_this_holes, .inl (cI, 4, .inl f_this_holes)),
  (q_p1, .inr (4, [.ref q_p1_has, .int v_p1_places])),
  (q_p1_has, .inl (cI, 12, .inl f_p1_has))]
abbrev zr_X10_findHoles : Room := { frames := 0, cells := 0, slots := 0, locals := 0 }
set_option maxHeartbeats 4000000 in
set_option maxRecDepth 100000 in
theorem c_X10_findHoles (l : Launch) (dC : Nat → ClassId) (dI : Nat → Nat → Nat) (cI cC cS : ClassId) (q_this : Nat) (q_this_whole : Nat) (q_this_holes : Nat) (q_p1 : Nat) (q_p1_has : Nat) (q_this_bestFill : Nat) (q_this_seen : Nat) (q_this_fill : Nat) (sz : Nat) (v_this_known : Int32) (v_this_blanks : Int32) (v_this_many : Int32) (v_this_best : Int32) (f_this_whole : Nat → Int32) (f_this_holes : Nat → Int32) (v_p1_places : Int32) (f_p1_has : Nat → Int32) (N : Nat) (Φ : Int32 → (Nat → Int32) → (Nat → Int32) → Prop)  (hf : wp_X10_findHoles N v_this_blanks f_this_whole f_this_holes v_p1_places f_p1_has Φ) : Met l yX10_findHoles wsX10_findHoles zr_X10_findHoles (zPc (dC, dI) (zT cI cC cS) [.ref q_this, .ref q_p1] sz (zW_X10_findHoles cI cC cS q_this q_this_whole q_this_holes q_p1 q_p1_has q_this_bestFill q_this_seen q_this_fill v_this_known v_this_blanks v_this_many v_this_best f_this_whole f_this_holes v_p1_places f_p1_has)) (zQv (dC, dI) (zT cI cC cS) (va_A (zW_X10_findHoles cI cC cS q_this q_this_whole q_this_holes q_p1 q_p1_has q_this_bestFill q_this_seen q_this_fill v_this_known v_this_blanks v_this_many v_this_best f_this_whole f_this_holes v_p1_places f_p1_has) sz) (fun (u : (Int32) × (Nat → Int32) × (Nat → Int32)) => Φ u.1 u.2.1 u.2.2) (fun u => (zW_X10_findHoles cI cC cS q_this q_this_whole q_this_holes q_p1 q_p1_has q_this_bestFill q_this_seen q_this_fill v_this_known u.1 v_this_many v_this_best u.2.1 u.2.2 v_p1_places f_p1_has))) 0 0 (va_A (zW_X10_findHoles cI cC cS q_this q_this_whole q_this_holes q_p1 q_p1_has q_this_bestFill q_this_seen q_this_fill v_this_known v_this_blanks v_this_many v_this_best f_this_whole f_this_holes v_p1_places f_p1_has) sz) := by
  refine Met.ofW (cc := cX10_findHoles) (maxL := 3) (ret := none) (by decide) rfl ?_
  intro p e s m args below meth c s₁ B hml hv
  obtain ⟨rfl, hsz, hP, hK, hD0⟩ := hv
  have hx := B.exec
  have hb := B.bytes
  have hr := B.returns
  have hts := atoms_spec (ws := wsX10_findHoles) B.pre
  have hown : s.vm.findClass RX10 = some m.cls := findClass_of_methodNamed B.named
  have hlocks := B.notSynchronized
  subst hsz
  have hD := hD0.self (sz := s.heap.size)
  have hA : ∀ q : Nat, s.heap.size ≤ q → va_A (zW_X10_findHoles cI cC cS q_this q_this_whole q_this_holes q_p1 q_p1_has q_this_bestFill q_this_seen q_this_fill v_this_known v_this_blanks v_this_many v_this_best f_this_whole f_this_holes v_p1_places f_p1_has) s.heap.size q := fun q h => Or.inr h
  generalize va_A (zW_X10_findHoles cI cC cS q_this q_this_whole q_this_holes q_p1 q_p1_has q_this_bestFill q_this_seen q_this_fill v_this_known v_this_blanks v_this_many v_this_best f_this_whole f_this_holes v_p1_places f_p1_has) s.heap.size = A at hD hA ⊢
  have hS : va_S A s.heap s.heap [] := va_S.rf
  have hl := lv_entry ([.ref q_this, .ref q_p1]) (n := 3) (Nat.le_of_ble_eq_true rfl)
  rw [lg_entry_eq]
  generalize (lg_sl ([.ref q_this, .ref q_p1]) ++ List.replicate (3 - (lg_sl ([.ref q_this, .ref q_p1])).length) Slot.unset).toArray = ls at hl ⊢
  have hl : lv_has ls 3 [(0, .ref q_this), (1, .ref q_p1)] := hl
  have lk2 := hts (.fieldLink RX10 64 "ReadFromAnywhere$Ring" "places" "I") (List.mem_of_getElem? (i := 2) rfl)
  have inX4 : ∀ w ∈ u_ws RX4 TX4 2, w ∈ wsX10_findHoles := fun _ h => List.mem_cons_of_mem _ (List.mem_append_right _ h)
  have lk3 := hts (.fieldLink RX10 32 "ReadFromAnywhere$WornSearch" "whole" "[I") (List.mem_of_getElem? (i := 3) rfl)
  have inX10 : ∀ w ∈ u_ws RX10 TX10 9, w ∈ wsX10_findHoles := fun _ h => List.mem_cons_of_mem _ (List.mem_append_left _ (List.mem_append_right _ h))
  have lk4 := hts (.fieldLink RX10 81 "ReadFromAnywhere$Ring" "has" "[I") (List.mem_of_getElem? (i := 4) rfl)
  have lk1 := hts (.fieldLink RX10 15 "ReadFromAnywhere$WornSearch" "blanks" "I") (List.mem_of_getElem? (i := 1) rfl)
  have lk5 := hts (.fieldLink RX10 35 "ReadFromAnywhere$WornSearch" "holes" "[I") (List.mem_of_getElem? (i := 5) rfl)
  have L7 : ∀ (n7 : Nat) (x2 : Int32) (v_this_blanks : Int32) (f_this_whole : Nat → Int32) (f_this_holes : Nat → Int32), ∀ (H : Heap) (locs : List Loc) (ls : Array Slot), va_P (dC, dI) vwCl (zW_X10_findHoles cI cC cS q_this q_this_whole q_this_holes q_p1 q_p1_has q_this_bestFill q_this_seen q_this_fill v_this_known v_this_blanks v_this_many v_this_best f_this_whole f_this_holes v_p1_places f_p1_has) H → va_D A (zW_X10_findHoles cI cC cS q_this q_this_whole q_this_holes q_p1 q_p1_has q_this_bestFill q_this_seen q_this_fill v_this_known v_this_blanks v_this_many v_this_best f_this_whole f_this_holes v_p1_places f_p1_has) → va_S A s.heap H locs → lv_has ls 3 [(0, .ref q_this), (1, .ref q_p1), (2, .int x2)] → lp_X10_findHoles_7 N v_p1_places f_p1_has Φ n7 x2 v_this_blanks f_this_whole f_this_holes → W p l e (headSpec wsX10_findHoles zr_X10_findHoles).room s m ([.ref q_this, .ref q_p1] : List Value).toArray below meth c H locs 0 0 (MQ below (zQv (dC, dI) (zT cI cC cS) A (fun (u : (Int32) × (Nat → Int32) × (Nat → Int32)) => Φ u.1 u.2.1 u.2.2) (fun u => (zW_X10_findHoles cI cC cS q_this q_this_whole q_this_holes q_p1 q_p1_has q_this_bestFill q_this_seen q_this_fill v_this_known u.1 v_this_many v_this_best u.2.1 u.2.2 v_p1_places f_p1_has))) ([.ref q_this, .ref q_p1] : List Value).toArray s 0 0 A) (F0 m 7 ls []) := by
    intro n7
    induction n7 with
    | zero =>
      intro x2 v_this_blanks f_this_whole f_this_holes H locs ls hP hD hS hl hf
      exact absurd hf (by rw [lp_X10_findHoles_7]; exact id)
    | succ n7 ih7 =>
      intro x2 v_this_blanks f_this_whole f_this_holes H locs ls hP hD hS hl hf
      rw [lp_X10_findHoles_7] at hf
      refine lv_iload_n hx hb dX10_findHoles_7 rfl (lv_at hl 2 rfl) ?_
      refine lv_aload_n hx hb dX10_findHoles_8 rfl (lv_at hl 1 rfl) ?_
      refine va_get (D := (dC, dI)) (ci := 4) (v := .int v_p1_places) (C := RX4) (T := TX4) (N := 2) hx hb hts inX4 hown hK hP 3 rfl rfl 1 (by decide) lk2 (fun _ h9 => h9) rfl dX10_findHoles_9 ?_
      refine lv_icmp_ge (tgt := 71) hx hb dX10_findHoles_12 (by decide) (fun c1 => ?_) (fun c1 => ?_)
      · replace hf := hf.1 c1
        exact z_vret hx hb hr hlocks (v_this_blanks, f_this_whole, f_this_holes) hf hK hP hD hS dX10_findHoles_71
      · replace hf := hf.2 c1
        refine lv_aload_n hx hb dX10_findHoles_15 rfl (lv_at hl 0 rfl) ?_
        refine va_get (D := (dC, dI)) (ci := 9) (v := .ref q_this_whole) (C := RX10) (T := TX10) (N := 9) hx hb hts inX10 hown hK hP 0 rfl rfl 6 (by decide) lk3 (fun _ h9 => h9) rfl dX10_findHoles_16 ?_
        refine lv_iload_n hx hb dX10_findHoles_19 rfl (lv_at hl 2 rfl) ?_
        refine lv_aload_n hx hb dX10_findHoles_20 rfl (lv_at hl 1 rfl) ?_
        refine va_get (D := (dC, dI)) (ci := 4) (v := .ref q_p1_has) (C := RX4) (T := TX4) (N := 2) hx hb hts inX4 hown hK hP 3 rfl rfl 0 (by decide) lk4 (fun _ h9 => h9) rfl dX10_findHoles_21 ?_
        refine lv_iload_n hx hb dX10_findHoles_24 rfl (lv_at hl 2 rfl) ?_
        refine va_iald hx hb hK hP 4 0 rfl rfl hf.1 dX10_findHoles_25 ?_
        replace hf := hf.2
        refine va_iast hx hb hK hP hD hS 1 0 rfl rfl hf.1 dX10_findHoles_26 (fun H locs hP hD hS => ?_)
        replace hf := hf.2
        have hP : va_P (dC, dI) vwCl (zW_X10_findHoles cI cC cS q_this q_this_whole q_this_holes q_p1 q_p1_has q_this_bestFill q_this_seen q_this_fill v_this_known v_this_blanks v_this_many v_this_best (upd f_this_whole (Int32.toNatClampNeg x2) (f_p1_has (Int32.toNatClampNeg x2))) f_this_holes v_p1_places f_p1_has) H := hP
        have hD : va_D A (zW_X10_findHoles cI cC cS q_this q_this_whole q_this_holes q_p1 q_p1_has q_this_bestFill q_this_seen q_this_fill v_this_known v_this_blanks v_this_many v_this_best (upd f_this_whole (Int32.toNatClampNeg x2) (f_p1_has (Int32.toNatClampNeg x2))) f_this_holes v_p1_places f_p1_has) := hD
        refine lv_aload_n hx hb dX10_findHoles_27 rfl (lv_at hl 1 rfl) ?_
        refine va_get (D := (dC, dI)) (ci := 4) (v := .ref q_p1_has) (C := RX4) (T := TX4) (N := 2) hx hb hts inX4 hown hK hP 3 rfl rfl 0 (by decide) lk4 (fun _ h9 => h9) rfl dX10_findHoles_28 ?_
        refine lv_iload_n hx hb dX10_findHoles_31 rfl (lv_at hl 2 rfl) ?_
        refine va_iald hx hb hK hP 4 0 rfl rfl hf.1 dX10_findHoles_32 ?_
        replace hf := hf.2
        refine lv_iconst (v := (-1)) hx hb dX10_findHoles_33 (by decide) ?_
        refine lv_icmp_ne (tgt := 65) hx hb dX10_findHoles_34 (by decide) (fun c2 => ?_) (fun c2 => ?_)
        · replace hf := hf.2 c2
          refine lv_iinc (v := (x2 + 1)) (lv' := [(2, .int (x2 + 1)), (0, .ref q_this), (1, .ref q_p1)]) hx hb dX10_findHoles_65 hl (k := 2) rfl (by rfl) (by decide) rfl (fun ls hl => ?_)
          refine lv_goto (tgt := 7) hx hb dX10_findHoles_68 (by decide) ?_
          exact ih7 (x2 + 1) v_this_blanks (upd f_this_whole (Int32.toNatClampNeg x2) (f_p1_has (Int32.toNatClampNeg x2))) f_this_holes _ _ _ hP hD hS (lv_sub hl [1, 2, 0] rfl) hf
        · replace hf := hf.1 c2
          refine lv_aload_n hx hb dX10_findHoles_37 rfl (lv_at hl 0 rfl) ?_
          refine va_get (D := (dC, dI)) (ci := 9) (v := .int v_this_blanks) (C := RX10) (T := TX10) (N := 9) hx hb hts inX10 hown hK hP 0 rfl rfl 1 (by decide) lk1 (fun _ h9 => h9) rfl dX10_findHoles_38 ?_
          refine lv_iconst (v := 4) hx hb dX10_findHoles_41 (by decide) ?_
          refine lv_icmp_ge (tgt := 65) hx hb dX10_findHoles_42 (by decide) (fun c3 => ?_) (fun c3 => ?_)
          · replace hf := hf.1 c3
            refine lv_iinc (v := (x2 + 1)) (lv' := [(2, .int (x2 + 1)), (0, .ref q_this), (1, .ref q_p1)]) hx hb dX10_findHoles_65 hl (k := 2) rfl (by rfl) (by decide) rfl (fun ls hl => ?_)
            refine lv_goto (tgt := 7) hx hb dX10_findHoles_68 (by decide) ?_
            exact ih7 (x2 + 1) v_this_blanks (upd f_this_whole (Int32.toNatClampNeg x2) (f_p1_has (Int32.toNatClampNeg x2))) f_this_holes _ _ _ hP hD hS (lv_sub hl [1, 2, 0] rfl) hf
          · replace hf := hf.2 c3
            refine lv_aload_n hx hb dX10_findHoles_45 rfl (lv_at hl 0 rfl) ?_
            refine va_get (D := (dC, dI)) (ci := 9) (v := .ref q_this_holes) (C := RX10) (T := TX10) (N := 9) hx hb hts inX10 hown hK hP 0 rfl rfl 7 (by decide) lk5 (fun _ h9 => h9) rfl dX10_findHoles_46 ?_
            refine lv_aload_n hx hb dX10_findHoles_49 rfl (lv_at hl 0 rfl) ?_
            refine va_get (D := (dC, dI)) (ci := 9) (v := .int v_this_blanks) (C := RX10) (T := TX10) (N := 9) hx hb hts inX10 hown hK hP 0 rfl rfl 1 (by decide) lk1 (fun _ h9 => h9) rfl dX10_findHoles_50 ?_
            refine lv_iload_n hx hb dX10_findHoles_53 rfl (lv_at hl 2 rfl) ?_
            refine va_iast hx hb hK hP hD hS 2 0 rfl rfl hf.1 dX10_findHoles_54 (fun H locs hP hD hS => ?_)
            replace hf := hf.2
            have hP : va_P (dC, dI) vwCl (zW_X10_findHoles cI cC cS q_this q_this_whole q_this_holes q_p1 q_p1_has q_this_bestFill q_this_seen q_this_fill v_this_known v_this_blanks v_this_many v_this_best (upd f_this_whole (Int32.toNatClampNeg x2) (f_p1_has (Int32.toNatClampNeg x2))) (upd f_this_holes (Int32.toNatClampNeg v_this_blanks) x2) v_p1_places f_p1_has) H := hP
            have hD : va_D A (zW_X10_findHoles cI cC cS q_this q_this_whole q_this_holes q_p1 q_p1_has q_this_bestFill q_this_seen q_this_fill v_this_known v_this_blanks v_this_many v_this_best (upd f_this_whole (Int32.toNatClampNeg x2) (f_p1_has (Int32.toNatClampNeg x2))) (upd f_this_holes (Int32.toNatClampNeg v_this_blanks) x2) v_p1_places f_p1_has) := hD
            refine lv_aload_n hx hb dX10_findHoles_55 rfl (lv_at hl 0 rfl) ?_
            refine lv_dup hx hb dX10_findHoles_56 rfl ?_
            refine va_get (D := (dC, dI)) (ci := 9) (v := .int v_this_blanks) (C := RX10) (T := TX10) (N := 9) hx hb hts inX10 hown hK hP 0 rfl rfl 1 (by decide) lk1 (fun _ h9 => h9) rfl dX10_findHoles_57 ?_
            refine lv_iconst (v := 1) hx hb dX10_findHoles_60 (by decide) ?_
            refine lv_iadd hx hb dX10_findHoles_61 ?_
            refine va_put (D := (dC, dI)) (ci := 9) (v := .int (v_this_blanks + 1)) (ty := .int) (C := RX10) (T := TX10) (N := 9) hx hb hts inX10 tyX10 tyX10_ok nmX10 hown hK hP hD hS 0 rfl rfl 1 (by decide) lk1 (fun _ h9 => h9) rfl (by decide +kernel) rfl rfl (Nat.le_of_ble_eq_true rfl) dX10_findHoles_62 (fun H locs hP hD hS => ?_)
            have hP : va_P (dC, dI) vwCl (zW_X10_findHoles cI cC cS q_this q_this_whole q_this_holes q_p1 q_p1_has q_this_bestFill q_this_seen q_this_fill v_this_known (v_this_blanks + 1) v_this_many v_this_best (upd f_this_whole (Int32.toNatClampNeg x2) (f_p1_has (Int32.toNatClampNeg x2))) (upd f_this_holes (Int32.toNatClampNeg v_this_blanks) x2) v_p1_places f_p1_has) H := hP
            have hD : va_D A (zW_X10_findHoles cI cC cS q_this q_this_whole q_this_holes q_p1 q_p1_has q_this_bestFill q_this_seen q_this_fill v_this_known (v_this_blanks + 1) v_this_many v_this_best (upd f_this_whole (Int32.toNatClampNeg x2) (f_p1_has (Int32.toNatClampNeg x2))) (upd f_this_holes (Int32.toNatClampNeg v_this_blanks) x2) v_p1_places f_p1_has) := hD
            refine lv_iinc (v := (x2 + 1)) (lv' := [(2, .int (x2 + 1)), (0, .ref q_this), (1, .ref q_p1)]) hx hb dX10_findHoles_65 hl (k := 2) rfl (by rfl) (by decide) rfl (fun ls hl => ?_)
            refine lv_goto (tgt := 7) hx hb dX10_findHoles_68 (by decide) ?_
            exact ih7 (x2 + 1) (v_this_blanks + 1) (upd f_this_whole (Int32.toNatClampNeg x2) (f_p1_has (Int32.toNatClampNeg x2))) (upd f_this_holes (Int32.toNatClampNeg v_this_blanks) x2) _ _ _ hP hD hS (lv_sub hl [1, 2, 0] rfl) hf
  unfold wp_X10_findHoles at hf
  refine lv_aload_n hx hb dX10_findHoles_0 rfl (lv_at hl 0 rfl) ?_
  refine lv_iconst (v := 0) hx hb dX10_findHoles_1 (by decide) ?_
  refine va_put (D := (dC, dI)) (ci := 9) (v := .int 0) (ty := .int) (C := RX10) (T := TX10) (N := 9) hx hb hts inX10 tyX10 tyX10_ok nmX10 hown hK hP hD hS 0 rfl rfl 1 (by decide) lk1 (fun _ h9 => h9) rfl (by decide +kernel) rfl rfl (Nat.le_of_ble_eq_true rfl) dX10_findHoles_2 (fun H locs hP hD hS => ?_)
  have hP : va_P (dC, dI) vwCl (zW_X10_findHoles cI cC cS q_this q_this_whole q_this_holes q_p1 q_p1_has q_this_bestFill q_this_seen q_this_fill v_this_known 0 v_this_many v_this_best f_this_whole f_this_holes v_p1_places f_p1_has) H := hP
  have hD : va_D A (zW_X10_findHoles cI cC cS q_this q_this_whole q_this_holes q_p1 q_p1_has q_this_bestFill q_this_seen q_this_fill v_this_known 0 v_this_many v_this_best f_this_whole f_this_holes v_p1_places f_p1_has) := hD
  refine lv_iconst (v := 0) hx hb dX10_findHoles_5 (by decide) ?_
  refine lv_istore_n (lv' := [(2, .int 0), (0, .ref q_this), (1, .ref q_p1)]) hx hb dX10_findHoles_6 rfl hl (by decide) rfl (fun ls hl => ?_)
  exact L7  N 0 0 f_this_whole f_this_holes _ _ _ hP hD hS (lv_sub hl [1, 2, 0] rfl) hf
def ex_X10_note_75 (N : Nat) (x3 : Int32) (v_this_blanks : Int32) (v_this_many : Int32) (v_this_best : Int32) (f_this_bestFill : Nat → Int32) (f_this_seen : Nat → Int32) (f_this_whole : Nat → Int32) (f_this_fill : Nat → Int32) (f_p1_weights : Nat → Int32) (Φ : Int32 → Int32 → (Nat → Int32) → (Nat → Int32) → Prop) : Prop := 
    ((x3 ≤ v_this_best → Φ v_this_many v_this_best f_this_bestFill f_this_seen) ∧
     (¬ (x3 ≤ v_this_best) → (¬ (v_this_blanks < 0) ∧ ((Int32.toNatClampNeg 0) + (Int32.toNatClampNeg v_this_blanks) ≤ 4 ∧ ((Int32.toNatClampNeg 0) + (Int32.toNatClampNeg v_this_blanks) ≤ 4 ∧ Φ v_this_many x3 (va_cpy f_this_fill f_this_bestFill (Int32.toNatClampNeg 0) (Int32.toNatClampNeg 0) (Int32.toNatClampNeg v_this_blanks)) f_this_seen)))))
def lp_X10_note_45 (N : Nat) (v_this_blanks : Int32) (f_this_fill : Nat → Int32) (f_p1_weights : Nat → Int32) (Φ : Int32 → Int32 → (Nat → Int32) → (Nat → Int32) → Prop) (k75 : Int32 → Prop) : Nat → Int32 → Int32 → Prop
  | 0, _, _ => False
  | n + 1, x3, x4 => 
    ((v_this_blanks ≤ x4 → k75 x3) ∧
     (¬ (v_this_blanks ≤ x4) → (vp_in x4 4 ∧ (vp_in (f_this_fill (Int32.toNatClampNeg x4)) 6 ∧ (lp_X10_note_45 N v_this_blanks f_this_fill f_p1_weights Φ k75 n) (x3 * (f_p1_weights (Int32.toNatClampNeg (f_this_fill (Int32.toNatClampNeg x4))))) (x4 + 1)))))
def ex_X10_note_40 (N : Nat) (v_this_blanks : Int32) (v_this_many : Int32) (v_this_best : Int32) (f_this_bestFill : Nat → Int32) (f_this_seen : Nat → Int32) (f_this_whole : Nat → Int32) (f_this_fill : Nat → Int32) (f_p1_weights : Nat → Int32) (Φ : Int32 → Int32 → (Nat → Int32) → (Nat → Int32) → Prop) : Prop := 
    lp_X10_note_45 N v_this_blanks f_this_fill f_p1_weights Φ (fun x3h45 => ex_X10_note_75 N x3h45 v_this_blanks v_this_many v_this_best f_this_bestFill f_this_seen f_this_whole f_this_fill f_p1_weights Φ) N 1 0
def lp_X10_note_12 (N : Nat) (x2 : Int32) (f_this_whole : Nat → Int32) (Φ : Int32 → Int32 → (Nat → Int32) → (Nat → Int32) → Prop) (k40 : (Nat → Int32) → Prop) : Nat → Int32 → (Nat → Int32) → Prop
  | 0, _, _ => False
  | n + 1, x3, f_this_seen => 
    ((x2 ≤ x3 → k40 f_this_seen) ∧
     (¬ (x2 ≤ x3) → (vp_in x3 12 ∧ (vp_in x3 12 ∧ (vp_in x3 12 ∧ (lp_X10_note_12 N x2 f_this_whole Φ k40 n) (x3 + 1) (upd f_this_seen (Int32.toNatClampNeg x3) ((f_this_seen (Int32.toNatClampNeg x3)) ||| (1 <<< ((f_this_whole (Int32.toNatClampNeg x3)) &&& 31)))))))))
def wp_X10_note (N : Nat) (x2 : Int32) (v_this_blanks : Int32) (v_this_many : Int32) (v_this_best : Int32) (f_this_bestFill : Nat → Int32) (f_this_seen : Nat → Int32) (f_this_whole : Nat → Int32) (f_this_fill : Nat → Int32) (f_p1_weights : Nat → Int32) (Φ : Int32 → Int32 → (Nat → Int32) → (Nat → Int32) → Prop) : Prop := 
    lp_X10_note_12 N x2 f_this_whole Φ (fun f_this_seenh12 => ex_X10_note_40 N v_this_blanks (v_this_many + 1) v_this_best f_this_bestFill f_this_seenh12 f_this_whole f_this_fill f_p1_weights Φ) N 0 f_this_seen
abbrev zW_X10_note (cI cC cS : ClassId) (q_this : Nat) (q_this_bestFill : Nat) (q_this_seen : Nat) (q_this_whole : Nat) (q_this_fill : Nat) (q_p1 : Nat) (q_p1_weights : Nat) (q_this_holes : Nat) (q_p1_kinds : Nat) (q_p1_sets : Nat) (q_p1_stocks : Nat) (q_p1_readers : Nat) (q_p1_eighths : Nat) (q_p1_wishes : Nat) (v_this_known : Int32) (v_this_blanks : Int32) (v_this_many : Int32) (v_this_best : Int32) (f_this_bestFill : Nat → Int32) (f_this_seen : Nat → Int32) (f_this_whole : Nat → Int32) (f_this_fill : Nat → Int32) (v_p1_words : Int32) (v_p1_roads : Int32) (f_p1_weights : Nat → Int32) : va_W := [(q_this, .inr (9, [.int v_this_known, .int v_this_blanks, .int v_this_many, .int v_this_best, .ref q_this_bestFill, .ref q_this_seen, .ref q_this_whole, .ref q_this_holes, .ref q_this_fill])),
  (q_this_bestFill, .inl (cI, 4, .inl f_this_bestFill)),
  (q_this_seen, .inl (cI, 12, .inl f_this_seen)),
  (q_this_whole, .inl (cI, 12, .inl f_this_whole)),
  (q_this_fill, .inl (cI, 4, .inl f_this_fill)),
  (q_p1, .inr (7, [.ref q_p1_kinds, .ref q_p1_sets, .ref q_p1_weights, .ref q_p1_stocks, .int v_p1_words, .ref q_p1_readers, .ref q_p1_eighths, .ref q_p1_wishes, .int v_p1_roads])),
  (q_p1_weights, .inl (cI, 6, .inl f_p1_weights))]
abbrev zr_X10_note : Room := { frames := 1, cells := 0, slots := 0, locals := 60 }
set_option maxHeartbeats 4000000 in
set_option maxRecDepth 100000 in
theorem c_X10_note (l : Launch) (dC : Nat → ClassId) (dI : Nat → Nat → Nat) (cI cC cS : ClassId) (q_this : Nat) (q_this_bestFill : Nat) (q_this_seen : Nat) (q_this_whole : Nat) (q_this_fill : Nat) (q_p1 : Nat) (q_p1_weights : Nat) (q_this_holes : Nat) (q_p1_kinds : Nat) (q_p1_sets : Nat) (q_p1_stocks : Nat) (q_p1_readers : Nat) (q_p1_eighths : Nat) (q_p1_wishes : Nat) (sz : Nat) (v_this_known : Int32) (v_this_blanks : Int32) (v_this_many : Int32) (v_this_best : Int32) (f_this_bestFill : Nat → Int32) (f_this_seen : Nat → Int32) (f_this_whole : Nat → Int32) (f_this_fill : Nat → Int32) (v_p1_words : Int32) (v_p1_roads : Int32) (f_p1_weights : Nat → Int32) (x2 : Int32) (N : Nat) (Φ : Int32 → Int32 → (Nat → Int32) → (Nat → Int32) → Prop)  (hf : wp_X10_note N x2 v_this_blanks v_this_many v_this_best f_this_bestFill f_this_seen f_this_whole f_this_fill f_p1_weights Φ) : Met l yX10_note wsX10_note zr_X10_note (zPc (dC, dI) (zT cI cC cS) [.ref q_this, .ref q_p1, .int x2] sz (zW_X10_note cI cC cS q_this q_this_bestFill q_this_seen q_this_whole q_this_fill q_p1 q_p1_weights q_this_holes q_p1_kinds q_p1_sets q_p1_stocks q_p1_readers q_p1_eighths q_p1_wishes v_this_known v_this_blanks v_this_many v_this_best f_this_bestFill f_this_seen f_this_whole f_this_fill v_p1_words v_p1_roads f_p1_weights)) (zQv (dC, dI) (zT cI cC cS) (va_A (zW_X10_note cI cC cS q_this q_this_bestFill q_this_seen q_this_whole q_this_fill q_p1 q_p1_weights q_this_holes q_p1_kinds q_p1_sets q_p1_stocks q_p1_readers q_p1_eighths q_p1_wishes v_this_known v_this_blanks v_this_many v_this_best f_this_bestFill f_this_seen f_this_whole f_this_fill v_p1_words v_p1_roads f_p1_weights) sz) (fun (u : (Int32) × (Int32) × (Nat → Int32) × (Nat → Int32)) => Φ u.1 u.2.1 u.2.2.1 u.2.2.2) (fun u => (zW_X10_note cI cC cS q_this q_this_bestFill q_this_seen q_this_whole q_this_fill q_p1 q_p1_weights q_this_holes q_p1_kinds q_p1_sets q_p1_stocks q_p1_readers q_p1_eighths q_p1_wishes v_this_known v_this_blanks u.1 u.2.1 u.2.2.1 u.2.2.2 f_this_whole f_this_fill v_p1_words v_p1_roads f_p1_weights))) 0 0 (va_A (zW_X10_note cI cC cS q_this q_this_bestFill q_this_seen q_this_whole q_this_fill q_p1 q_p1_weights q_this_holes q_p1_kinds q_p1_sets q_p1_stocks q_p1_readers q_p1_eighths q_p1_wishes v_this_known v_this_blanks v_this_many v_this_best f_this_bestFill f_this_seen f_this_whole f_this_fill v_p1_words v_p1_roads f_p1_weights) sz) := by
  refine Met.ofW (cc := cX10_note) (maxL := 5) (ret := none) (by decide) rfl ?_
  intro p e s m args below meth c s₁ B hml hv
  obtain ⟨rfl, hsz, hP, hK, hD0⟩ := hv
  have hx := B.exec
  have hb := B.bytes
  have hr := B.returns
  have hts := atoms_spec (ws := wsX10_note) B.pre
  have hown : s.vm.findClass RX10 = some m.cls := findClass_of_methodNamed B.named
  have hlocks := B.notSynchronized
  subst hsz
  have hD := hD0.self (sz := s.heap.size)
  have hA : ∀ q : Nat, s.heap.size ≤ q → va_A (zW_X10_note cI cC cS q_this q_this_bestFill q_this_seen q_this_whole q_this_fill q_p1 q_p1_weights q_this_holes q_p1_kinds q_p1_sets q_p1_stocks q_p1_readers q_p1_eighths q_p1_wishes v_this_known v_this_blanks v_this_many v_this_best f_this_bestFill f_this_seen f_this_whole f_this_fill v_p1_words v_p1_roads f_p1_weights) s.heap.size q := fun q h => Or.inr h
  generalize va_A (zW_X10_note cI cC cS q_this q_this_bestFill q_this_seen q_this_whole q_this_fill q_p1 q_p1_weights q_this_holes q_p1_kinds q_p1_sets q_p1_stocks q_p1_readers q_p1_eighths q_p1_wishes v_this_known v_this_blanks v_this_many v_this_best f_this_bestFill f_this_seen f_this_whole f_this_fill v_p1_words v_p1_roads f_p1_weights) s.heap.size = A at hD hA ⊢
  have hS : va_S A s.heap s.heap [] := va_S.rf
  have hl := lv_entry ([.ref q_this, .ref q_p1, .int x2]) (n := 5) (Nat.le_of_ble_eq_true rfl)
  rw [lg_entry_eq]
  generalize (lg_sl ([.ref q_this, .ref q_p1, .int x2]) ++ List.replicate (5 - (lg_sl ([.ref q_this, .ref q_p1, .int x2])).length) Slot.unset).toArray = ls at hl ⊢
  have hl : lv_has ls 5 [(0, .ref q_this), (1, .ref q_p1), (2, .int x2)] := hl
  have lk7 := hts (.fieldLink RX10 22 "ReadFromAnywhere$WornSearch" "best" "I") (List.mem_of_getElem? (i := 7) rfl)
  have inX10 : ∀ w ∈ u_ws RX10 TX10 9, w ∈ wsX10_note := fun _ h => List.mem_cons_of_mem _ (List.mem_append_left _ (List.mem_append_right _ h))
  have lk6 := hts (.fieldLink RX10 38 "ReadFromAnywhere$WornSearch" "fill" "[I") (List.mem_of_getElem? (i := 6) rfl)
  have lk8 := hts (.fieldLink RX10 25 "ReadFromAnywhere$WornSearch" "bestFill" "[I") (List.mem_of_getElem? (i := 8) rfl)
  have lk4 := hts (.fieldLink RX10 15 "ReadFromAnywhere$WornSearch" "blanks" "I") (List.mem_of_getElem? (i := 4) rfl)
  have lk10 := hts (.native arraycopyName) (List.mem_of_getElem? (i := 10) rfl)
  have lk11 := hts (.static arraycopyName) (List.mem_of_getElem? (i := 11) rfl)
  have lk12 := hts (.initialized "java/lang/System") (List.mem_of_getElem? (i := 12) rfl)
  have lk9 := hts (.methodLink RX10 87 arraycopyName) (List.mem_of_getElem? (i := 9) rfl)
  have lk5 := hts (.fieldLink RX10 84 "ReadFromAnywhere$Tongue" "weights" "[I") (List.mem_of_getElem? (i := 5) rfl)
  have inX8 : ∀ w ∈ u_ws RX8 TX8 9, w ∈ wsX10_note := fun _ h => List.mem_cons_of_mem _ (List.mem_append_right _ h)
  have lk2 := hts (.fieldLink RX10 29 "ReadFromAnywhere$WornSearch" "seen" "[I") (List.mem_of_getElem? (i := 2) rfl)
  have lk3 := hts (.fieldLink RX10 32 "ReadFromAnywhere$WornSearch" "whole" "[I") (List.mem_of_getElem? (i := 3) rfl)
  have lk1 := hts (.fieldLink RX10 19 "ReadFromAnywhere$WornSearch" "many" "I") (List.mem_of_getElem? (i := 1) rfl)
  have E75 : ∀ (x3 : Int32) (v_this_many : Int32) (v_this_best : Int32) (f_this_bestFill : Nat → Int32) (f_this_seen : Nat → Int32), ∀ (H : Heap) (locs : List Loc) (ls : Array Slot), va_P (dC, dI) vwCl (zW_X10_note cI cC cS q_this q_this_bestFill q_this_seen q_this_whole q_this_fill q_p1 q_p1_weights q_this_holes q_p1_kinds q_p1_sets q_p1_stocks q_p1_readers q_p1_eighths q_p1_wishes v_this_known v_this_blanks v_this_many v_this_best f_this_bestFill f_this_seen f_this_whole f_this_fill v_p1_words v_p1_roads f_p1_weights) H → va_D A (zW_X10_note cI cC cS q_this q_this_bestFill q_this_seen q_this_whole q_this_fill q_p1 q_p1_weights q_this_holes q_p1_kinds q_p1_sets q_p1_stocks q_p1_readers q_p1_eighths q_p1_wishes v_this_known v_this_blanks v_this_many v_this_best f_this_bestFill f_this_seen f_this_whole f_this_fill v_p1_words v_p1_roads f_p1_weights) → va_S A s.heap H locs → lv_has ls 5 [(0, .ref q_this), (3, .int x3)] → ex_X10_note_75 N x3 v_this_blanks v_this_many v_this_best f_this_bestFill f_this_seen f_this_whole f_this_fill f_p1_weights Φ → W p l e (headSpec wsX10_note zr_X10_note).room s m ([.ref q_this, .ref q_p1, .int x2] : List Value).toArray below meth c H locs 0 0 (MQ below (zQv (dC, dI) (zT cI cC cS) A (fun (u : (Int32) × (Int32) × (Nat → Int32) × (Nat → Int32)) => Φ u.1 u.2.1 u.2.2.1 u.2.2.2) (fun u => (zW_X10_note cI cC cS q_this q_this_bestFill q_this_seen q_this_whole q_this_fill q_p1 q_p1_weights q_this_holes q_p1_kinds q_p1_sets q_p1_stocks q_p1_readers q_p1_eighths q_p1_wishes v_this_known v_this_blanks u.1 u.2.1 u.2.2.1 u.2.2.2 f_this_whole f_this_fill v_p1_words v_p1_roads f_p1_weights))) ([.ref q_this, .ref q_p1, .int x2] : List Value).toArray s 0 0 A) (F0 m 75 ls []) := by
    intro x3 v_this_many v_this_best f_this_bestFill f_this_seen H locs ls hP hD hS hl hf
    unfold ex_X10_note_75 at hf
    refine lv_iload_n hx hb dX10_note_75 rfl (lv_at hl 1 rfl) ?_
    refine lv_aload_n hx hb dX10_note_76 rfl (lv_at hl 0 rfl) ?_
    refine va_get (D := (dC, dI)) (ci := 9) (v := .int v_this_best) (C := RX10) (T := TX10) (N := 9) hx hb hts inX10 hown hK hP 0 rfl rfl 3 (by decide) lk7 (fun _ h9 => h9) rfl dX10_note_77 ?_
    refine lv_icmp_le (tgt := 105) hx hb dX10_note_80 (by decide) (fun c1 => ?_) (fun c1 => ?_)
    · replace hf := hf.1 c1
      exact z_vret hx hb hr hlocks (v_this_many, v_this_best, f_this_bestFill, f_this_seen) hf hK hP hD hS dX10_note_105
    · replace hf := hf.2 c1
      refine lv_aload_n hx hb dX10_note_83 rfl (lv_at hl 0 rfl) ?_
      refine lv_iload_n hx hb dX10_note_84 rfl (lv_at hl 1 rfl) ?_
      refine va_put (D := (dC, dI)) (ci := 9) (v := .int x3) (ty := .int) (C := RX10) (T := TX10) (N := 9) hx hb hts inX10 tyX10 tyX10_ok nmX10 hown hK hP hD hS 0 rfl rfl 3 (by decide) lk7 (fun _ h9 => h9) rfl (by decide +kernel) rfl rfl (Nat.le_of_ble_eq_true rfl) dX10_note_85 (fun H locs hP hD hS => ?_)
      have hP : va_P (dC, dI) vwCl (zW_X10_note cI cC cS q_this q_this_bestFill q_this_seen q_this_whole q_this_fill q_p1 q_p1_weights q_this_holes q_p1_kinds q_p1_sets q_p1_stocks q_p1_readers q_p1_eighths q_p1_wishes v_this_known v_this_blanks v_this_many x3 f_this_bestFill f_this_seen f_this_whole f_this_fill v_p1_words v_p1_roads f_p1_weights) H := hP
      have hD : va_D A (zW_X10_note cI cC cS q_this q_this_bestFill q_this_seen q_this_whole q_this_fill q_p1 q_p1_weights q_this_holes q_p1_kinds q_p1_sets q_p1_stocks q_p1_readers q_p1_eighths q_p1_wishes v_this_known v_this_blanks v_this_many x3 f_this_bestFill f_this_seen f_this_whole f_this_fill v_p1_words v_p1_roads f_p1_weights) := hD
      refine lv_aload_n hx hb dX10_note_88 rfl (lv_at hl 0 rfl) ?_
      refine va_get (D := (dC, dI)) (ci := 9) (v := .ref q_this_fill) (C := RX10) (T := TX10) (N := 9) hx hb hts inX10 hown hK hP 0 rfl rfl 8 (by decide) lk6 (fun _ h9 => h9) rfl dX10_note_89 ?_
      refine lv_iconst (v := 0) hx hb dX10_note_92 (by decide) ?_
      refine lv_aload_n hx hb dX10_note_93 rfl (lv_at hl 0 rfl) ?_
      refine va_get (D := (dC, dI)) (ci := 9) (v := .ref q_this_bestFill) (C := RX10) (T := TX10) (N := 9) hx hb hts inX10 hown hK hP 0 rfl rfl 4 (by decide) lk8 (fun _ h9 => h9) rfl dX10_note_94 ?_
      refine lv_iconst (v := 0) hx hb dX10_note_97 (by decide) ?_
      refine lv_aload_n hx hb dX10_note_98 rfl (lv_at hl 0 rfl) ?_
      refine va_get (D := (dC, dI)) (ci := 9) (v := .int v_this_blanks) (C := RX10) (T := TX10) (N := 9) hx hb hts inX10 hown hK hP 0 rfl rfl 1 (by decide) lk4 (fun _ h9 => h9) rfl dX10_note_99 ?_
      refine va_copyi (ty := .int) (sp := 0) (dp := 0) (n := v_this_blanks) hx hb (hml.trans hl.1.symm) hown lk9 lk10 lk11 lk12 hK hP hD hS 4 1 0 0 rfl rfl rfl rfl rfl (by decide) (by decide) hf.1 hf.2.1 hf.2.2.1 (fun _ _ => rfl) (Nat.le_of_ble_eq_true rfl) (Nat.le_of_ble_eq_true rfl) dX10_note_102 (fun H locs hP hD hS => ?_)
      replace hf := hf.2.2.2
      have hP : va_P (dC, dI) vwCl (zW_X10_note cI cC cS q_this q_this_bestFill q_this_seen q_this_whole q_this_fill q_p1 q_p1_weights q_this_holes q_p1_kinds q_p1_sets q_p1_stocks q_p1_readers q_p1_eighths q_p1_wishes v_this_known v_this_blanks v_this_many x3 (va_cpy f_this_fill f_this_bestFill (Int32.toNatClampNeg 0) (Int32.toNatClampNeg 0) (Int32.toNatClampNeg v_this_blanks)) f_this_seen f_this_whole f_this_fill v_p1_words v_p1_roads f_p1_weights) H := hP
      have hD : va_D A (zW_X10_note cI cC cS q_this q_this_bestFill q_this_seen q_this_whole q_this_fill q_p1 q_p1_weights q_this_holes q_p1_kinds q_p1_sets q_p1_stocks q_p1_readers q_p1_eighths q_p1_wishes v_this_known v_this_blanks v_this_many x3 (va_cpy f_this_fill f_this_bestFill (Int32.toNatClampNeg 0) (Int32.toNatClampNeg 0) (Int32.toNatClampNeg v_this_blanks)) f_this_seen f_this_whole f_this_fill v_p1_words v_p1_roads f_p1_weights) := hD
      exact z_vret hx hb hr hlocks (v_this_many, x3, (va_cpy f_this_fill f_this_bestFill (Int32.toNatClampNeg 0) (Int32.toNatClampNeg 0) (Int32.toNatClampNeg v_this_blanks)), f_this_seen) hf hK hP hD hS dX10_note_105
  have L45 : ∀ (v_this_many : Int32) (v_this_best : Int32) (f_this_bestFill : Nat → Int32) (f_this_seen : Nat → Int32), ∀ (n45 : Nat) (x3 : Int32) (x4 : Int32), ∀ (H : Heap) (locs : List Loc) (ls : Array Slot), va_P (dC, dI) vwCl (zW_X10_note cI cC cS q_this q_this_bestFill q_this_seen q_this_whole q_this_fill q_p1 q_p1_weights q_this_holes q_p1_kinds q_p1_sets q_p1_stocks q_p1_readers q_p1_eighths q_p1_wishes v_this_known v_this_blanks v_this_many v_this_best f_this_bestFill f_this_seen f_this_whole f_this_fill v_p1_words v_p1_roads f_p1_weights) H → va_D A (zW_X10_note cI cC cS q_this q_this_bestFill q_this_seen q_this_whole q_this_fill q_p1 q_p1_weights q_this_holes q_p1_kinds q_p1_sets q_p1_stocks q_p1_readers q_p1_eighths q_p1_wishes v_this_known v_this_blanks v_this_many v_this_best f_this_bestFill f_this_seen f_this_whole f_this_fill v_p1_words v_p1_roads f_p1_weights) → va_S A s.heap H locs → lv_has ls 5 [(0, .ref q_this), (1, .ref q_p1), (3, .int x3), (4, .int x4)] → lp_X10_note_45 N v_this_blanks f_this_fill f_p1_weights Φ (fun x3h45 => ex_X10_note_75 N x3h45 v_this_blanks v_this_many v_this_best f_this_bestFill f_this_seen f_this_whole f_this_fill f_p1_weights Φ) n45 x3 x4 → W p l e (headSpec wsX10_note zr_X10_note).room s m ([.ref q_this, .ref q_p1, .int x2] : List Value).toArray below meth c H locs 0 0 (MQ below (zQv (dC, dI) (zT cI cC cS) A (fun (u : (Int32) × (Int32) × (Nat → Int32) × (Nat → Int32)) => Φ u.1 u.2.1 u.2.2.1 u.2.2.2) (fun u => (zW_X10_note cI cC cS q_this q_this_bestFill q_this_seen q_this_whole q_this_fill q_p1 q_p1_weights q_this_holes q_p1_kinds q_p1_sets q_p1_stocks q_p1_readers q_p1_eighths q_p1_wishes v_this_known v_this_blanks u.1 u.2.1 u.2.2.1 u.2.2.2 f_this_whole f_this_fill v_p1_words v_p1_roads f_p1_weights))) ([.ref q_this, .ref q_p1, .int x2] : List Value).toArray s 0 0 A) (F0 m 45 ls []) := by
    intro v_this_many v_this_best f_this_bestFill f_this_seen
    intro n45
    induction n45 with
    | zero =>
      intro x3 x4 H locs ls hP hD hS hl hf
      exact absurd hf (by rw [lp_X10_note_45]; exact id)
    | succ n45 ih45 =>
      intro x3 x4 H locs ls hP hD hS hl hf
      rw [lp_X10_note_45] at hf
      refine lv_iload hx hb dX10_note_45 (lv_at hl 3 rfl) ?_
      refine lv_aload_n hx hb dX10_note_47 rfl (lv_at hl 0 rfl) ?_
      refine va_get (D := (dC, dI)) (ci := 9) (v := .int v_this_blanks) (C := RX10) (T := TX10) (N := 9) hx hb hts inX10 hown hK hP 0 rfl rfl 1 (by decide) lk4 (fun _ h9 => h9) rfl dX10_note_48 ?_
      refine lv_icmp_ge (tgt := 75) hx hb dX10_note_51 (by decide) (fun c2 => ?_) (fun c2 => ?_)
      · replace hf := hf.1 c2
        exact E75 x3 v_this_many v_this_best f_this_bestFill f_this_seen _ _ _ hP hD hS (lv_sub hl [0, 2] rfl) hf
      · replace hf := hf.2 c2
        refine lv_iload_n hx hb dX10_note_54 rfl (lv_at hl 2 rfl) ?_
        refine lv_aload_n hx hb dX10_note_55 rfl (lv_at hl 1 rfl) ?_
        refine va_get (D := (dC, dI)) (ci := 7) (v := .ref q_p1_weights) (C := RX8) (T := TX8) (N := 9) hx hb hts inX8 hown hK hP 5 rfl rfl 2 (by decide) lk5 (fun _ h9 => h9) rfl dX10_note_56 ?_
        refine lv_aload_n hx hb dX10_note_59 rfl (lv_at hl 0 rfl) ?_
        refine va_get (D := (dC, dI)) (ci := 9) (v := .ref q_this_fill) (C := RX10) (T := TX10) (N := 9) hx hb hts inX10 hown hK hP 0 rfl rfl 8 (by decide) lk6 (fun _ h9 => h9) rfl dX10_note_60 ?_
        refine lv_iload hx hb dX10_note_63 (lv_at hl 3 rfl) ?_
        refine va_iald hx hb hK hP 4 0 rfl rfl hf.1 dX10_note_65 ?_
        replace hf := hf.2
        refine va_iald hx hb hK hP 6 0 rfl rfl hf.1 dX10_note_66 ?_
        replace hf := hf.2
        refine lv_imul hx hb dX10_note_67 ?_
        refine lv_istore_n (lv' := [(3, .int (x3 * (f_p1_weights (Int32.toNatClampNeg (f_this_fill (Int32.toNatClampNeg x4)))))), (0, .ref q_this), (1, .ref q_p1), (4, .int x4)]) hx hb dX10_note_68 rfl hl (by decide) rfl (fun ls hl => ?_)
        refine lv_iinc (v := (x4 + 1)) (lv' := [(4, .int (x4 + 1)), (3, .int (x3 * (f_p1_weights (Int32.toNatClampNeg (f_this_fill (Int32.toNatClampNeg x4)))))), (0, .ref q_this), (1, .ref q_p1)]) hx hb dX10_note_69 hl (k := 3) rfl (by rfl) (by decide) rfl (fun ls hl => ?_)
        refine lv_goto (tgt := 45) hx hb dX10_note_72 (by decide) ?_
        exact ih45 (x3 * (f_p1_weights (Int32.toNatClampNeg (f_this_fill (Int32.toNatClampNeg x4))))) (x4 + 1) _ _ _ hP hD hS (lv_sub hl [2, 3, 1, 0] rfl) hf
  have E40 : ∀ (v_this_many : Int32) (v_this_best : Int32) (f_this_bestFill : Nat → Int32) (f_this_seen : Nat → Int32), ∀ (H : Heap) (locs : List Loc) (ls : Array Slot), va_P (dC, dI) vwCl (zW_X10_note cI cC cS q_this q_this_bestFill q_this_seen q_this_whole q_this_fill q_p1 q_p1_weights q_this_holes q_p1_kinds q_p1_sets q_p1_stocks q_p1_readers q_p1_eighths q_p1_wishes v_this_known v_this_blanks v_this_many v_this_best f_this_bestFill f_this_seen f_this_whole f_this_fill v_p1_words v_p1_roads f_p1_weights) H → va_D A (zW_X10_note cI cC cS q_this q_this_bestFill q_this_seen q_this_whole q_this_fill q_p1 q_p1_weights q_this_holes q_p1_kinds q_p1_sets q_p1_stocks q_p1_readers q_p1_eighths q_p1_wishes v_this_known v_this_blanks v_this_many v_this_best f_this_bestFill f_this_seen f_this_whole f_this_fill v_p1_words v_p1_roads f_p1_weights) → va_S A s.heap H locs → lv_has ls 5 [(0, .ref q_this), (1, .ref q_p1)] → ex_X10_note_40 N v_this_blanks v_this_many v_this_best f_this_bestFill f_this_seen f_this_whole f_this_fill f_p1_weights Φ → W p l e (headSpec wsX10_note zr_X10_note).room s m ([.ref q_this, .ref q_p1, .int x2] : List Value).toArray below meth c H locs 0 0 (MQ below (zQv (dC, dI) (zT cI cC cS) A (fun (u : (Int32) × (Int32) × (Nat → Int32) × (Nat → Int32)) => Φ u.1 u.2.1 u.2.2.1 u.2.2.2) (fun u => (zW_X10_note cI cC cS q_this q_this_bestFill q_this_seen q_this_whole q_this_fill q_p1 q_p1_weights q_this_holes q_p1_kinds q_p1_sets q_p1_stocks q_p1_readers q_p1_eighths q_p1_wishes v_this_known v_this_blanks u.1 u.2.1 u.2.2.1 u.2.2.2 f_this_whole f_this_fill v_p1_words v_p1_roads f_p1_weights))) ([.ref q_this, .ref q_p1, .int x2] : List Value).toArray s 0 0 A) (F0 m 40 ls []) := by
    intro v_this_many v_this_best f_this_bestFill f_this_seen H locs ls hP hD hS hl hf
    unfold ex_X10_note_40 at hf
    refine lv_iconst (v := 1) hx hb dX10_note_40 (by decide) ?_
    refine lv_istore_n (lv' := [(3, .int 1), (0, .ref q_this), (1, .ref q_p1)]) hx hb dX10_note_41 rfl hl (by decide) rfl (fun ls hl => ?_)
    refine lv_iconst (v := 0) hx hb dX10_note_42 (by decide) ?_
    refine lv_istore (lv' := [(4, .int 0), (3, .int 1), (0, .ref q_this), (1, .ref q_p1)]) hx hb dX10_note_43 hl (by decide) rfl (fun ls hl => ?_)
    exact L45 v_this_many v_this_best f_this_bestFill f_this_seen N 1 0 _ _ _ hP hD hS (lv_sub hl [2, 3, 1, 0] rfl) hf
  have L12 : ∀ (v_this_many : Int32) (v_this_best : Int32) (f_this_bestFill : Nat → Int32), ∀ (n12 : Nat) (x3 : Int32) (f_this_seen : Nat → Int32), ∀ (H : Heap) (locs : List Loc) (ls : Array Slot), va_P (dC, dI) vwCl (zW_X10_note cI cC cS q_this q_this_bestFill q_this_seen q_this_whole q_this_fill q_p1 q_p1_weights q_this_holes q_p1_kinds q_p1_sets q_p1_stocks q_p1_readers q_p1_eighths q_p1_wishes v_this_known v_this_blanks v_this_many v_this_best f_this_bestFill f_this_seen f_this_whole f_this_fill v_p1_words v_p1_roads f_p1_weights) H → va_D A (zW_X10_note cI cC cS q_this q_this_bestFill q_this_seen q_this_whole q_this_fill q_p1 q_p1_weights q_this_holes q_p1_kinds q_p1_sets q_p1_stocks q_p1_readers q_p1_eighths q_p1_wishes v_this_known v_this_blanks v_this_many v_this_best f_this_bestFill f_this_seen f_this_whole f_this_fill v_p1_words v_p1_roads f_p1_weights) → va_S A s.heap H locs → lv_has ls 5 [(0, .ref q_this), (1, .ref q_p1), (2, .int x2), (3, .int x3)] → lp_X10_note_12 N x2 f_this_whole Φ (fun f_this_seenh12 => ex_X10_note_40 N v_this_blanks v_this_many v_this_best f_this_bestFill f_this_seenh12 f_this_whole f_this_fill f_p1_weights Φ) n12 x3 f_this_seen → W p l e (headSpec wsX10_note zr_X10_note).room s m ([.ref q_this, .ref q_p1, .int x2] : List Value).toArray below meth c H locs 0 0 (MQ below (zQv (dC, dI) (zT cI cC cS) A (fun (u : (Int32) × (Int32) × (Nat → Int32) × (Nat → Int32)) => Φ u.1 u.2.1 u.2.2.1 u.2.2.2) (fun u => (zW_X10_note cI cC cS q_this q_this_bestFill q_this_seen q_this_whole q_this_fill q_p1 q_p1_weights q_this_holes q_p1_kinds q_p1_sets q_p1_stocks q_p1_readers q_p1_eighths q_p1_wishes v_this_known v_this_blanks u.1 u.2.1 u.2.2.1 u.2.2.2 f_this_whole f_this_fill v_p1_words v_p1_roads f_p1_weights))) ([.ref q_this, .ref q_p1, .int x2] : List Value).toArray s 0 0 A) (F0 m 12 ls []) := by
    intro v_this_many v_this_best f_this_bestFill
    intro n12
    induction n12 with
    | zero =>
      intro x3 f_this_seen H locs ls hP hD hS hl hf
      exact absurd hf (by rw [lp_X10_note_12]; exact id)
    | succ n12 ih12 =>
      intro x3 f_this_seen H locs ls hP hD hS hl hf
      rw [lp_X10_note_12] at hf
      refine lv_iload_n hx hb dX10_note_12 rfl (lv_at hl 3 rfl) ?_
      refine lv_iload_n hx hb dX10_note_13 rfl (lv_at hl 2 rfl) ?_
      refine lv_icmp_ge (tgt := 40) hx hb dX10_note_14 (by decide) (fun c3 => ?_) (fun c3 => ?_)
      · replace hf := hf.1 c3
        exact E40 v_this_many v_this_best f_this_bestFill f_this_seen _ _ _ hP hD hS (lv_sub hl [0, 1] rfl) hf
      · replace hf := hf.2 c3
        refine lv_aload_n hx hb dX10_note_17 rfl (lv_at hl 0 rfl) ?_
        refine va_get (D := (dC, dI)) (ci := 9) (v := .ref q_this_seen) (C := RX10) (T := TX10) (N := 9) hx hb hts inX10 hown hK hP 0 rfl rfl 5 (by decide) lk2 (fun _ h9 => h9) rfl dX10_note_18 ?_
        refine lv_iload_n hx hb dX10_note_21 rfl (lv_at hl 3 rfl) ?_
        refine lv_dup2_11 hx hb dX10_note_22 rfl rfl ?_
        refine va_iald hx hb hK hP 2 0 rfl rfl hf.1 dX10_note_23 ?_
        replace hf := hf.2
        refine lv_iconst (v := 1) hx hb dX10_note_24 (by decide) ?_
        refine lv_aload_n hx hb dX10_note_25 rfl (lv_at hl 0 rfl) ?_
        refine va_get (D := (dC, dI)) (ci := 9) (v := .ref q_this_whole) (C := RX10) (T := TX10) (N := 9) hx hb hts inX10 hown hK hP 0 rfl rfl 6 (by decide) lk3 (fun _ h9 => h9) rfl dX10_note_26 ?_
        refine lv_iload_n hx hb dX10_note_29 rfl (lv_at hl 3 rfl) ?_
        refine va_iald hx hb hK hP 3 0 rfl rfl hf.1 dX10_note_30 ?_
        replace hf := hf.2
        refine lv_ishl hx hb dX10_note_31 ?_
        refine lv_ior hx hb dX10_note_32 ?_
        refine va_iast hx hb hK hP hD hS 2 0 rfl rfl hf.1 dX10_note_33 (fun H locs hP hD hS => ?_)
        replace hf := hf.2
        have hP : va_P (dC, dI) vwCl (zW_X10_note cI cC cS q_this q_this_bestFill q_this_seen q_this_whole q_this_fill q_p1 q_p1_weights q_this_holes q_p1_kinds q_p1_sets q_p1_stocks q_p1_readers q_p1_eighths q_p1_wishes v_this_known v_this_blanks v_this_many v_this_best f_this_bestFill (upd f_this_seen (Int32.toNatClampNeg x3) ((f_this_seen (Int32.toNatClampNeg x3)) ||| (1 <<< ((f_this_whole (Int32.toNatClampNeg x3)) &&& 31)))) f_this_whole f_this_fill v_p1_words v_p1_roads f_p1_weights) H := hP
        have hD : va_D A (zW_X10_note cI cC cS q_this q_this_bestFill q_this_seen q_this_whole q_this_fill q_p1 q_p1_weights q_this_holes q_p1_kinds q_p1_sets q_p1_stocks q_p1_readers q_p1_eighths q_p1_wishes v_this_known v_this_blanks v_this_many v_this_best f_this_bestFill (upd f_this_seen (Int32.toNatClampNeg x3) ((f_this_seen (Int32.toNatClampNeg x3)) ||| (1 <<< ((f_this_whole (Int32.toNatClampNeg x3)) &&& 31)))) f_this_whole f_this_fill v_p1_words v_p1_roads f_p1_weights) := hD
        refine lv_iinc (v := (x3 + 1)) (lv' := [(3, .int (x3 + 1)), (0, .ref q_this), (1, .ref q_p1), (2, .int x2)]) hx hb dX10_note_34 hl (k := 3) rfl (by rfl) (by decide) rfl (fun ls hl => ?_)
        refine lv_goto (tgt := 12) hx hb dX10_note_37 (by decide) ?_
        exact ih12 (x3 + 1) (upd f_this_seen (Int32.toNatClampNeg x3) ((f_this_seen (Int32.toNatClampNeg x3)) ||| (1 <<< ((f_this_whole (Int32.toNatClampNeg x3)) &&& 31)))) _ _ _ hP hD hS (lv_sub hl [1, 2, 3, 0] rfl) hf
  unfold wp_X10_note at hf
  refine lv_aload_n hx hb dX10_note_0 rfl (lv_at hl 0 rfl) ?_
  refine lv_dup hx hb dX10_note_1 rfl ?_
  refine va_get (D := (dC, dI)) (ci := 9) (v := .int v_this_many) (C := RX10) (T := TX10) (N := 9) hx hb hts inX10 hown hK hP 0 rfl rfl 2 (by decide) lk1 (fun _ h9 => h9) rfl dX10_note_2 ?_
  refine lv_iconst (v := 1) hx hb dX10_note_5 (by decide) ?_
  refine lv_iadd hx hb dX10_note_6 ?_
  refine va_put (D := (dC, dI)) (ci := 9) (v := .int (v_this_many + 1)) (ty := .int) (C := RX10) (T := TX10) (N := 9) hx hb hts inX10 tyX10 tyX10_ok nmX10 hown hK hP hD hS 0 rfl rfl 2 (by decide) lk1 (fun _ h9 => h9) rfl (by decide +kernel) rfl rfl (Nat.le_of_ble_eq_true rfl) dX10_note_7 (fun H locs hP hD hS => ?_)
  have hP : va_P (dC, dI) vwCl (zW_X10_note cI cC cS q_this q_this_bestFill q_this_seen q_this_whole q_this_fill q_p1 q_p1_weights q_this_holes q_p1_kinds q_p1_sets q_p1_stocks q_p1_readers q_p1_eighths q_p1_wishes v_this_known v_this_blanks (v_this_many + 1) v_this_best f_this_bestFill f_this_seen f_this_whole f_this_fill v_p1_words v_p1_roads f_p1_weights) H := hP
  have hD : va_D A (zW_X10_note cI cC cS q_this q_this_bestFill q_this_seen q_this_whole q_this_fill q_p1 q_p1_weights q_this_holes q_p1_kinds q_p1_sets q_p1_stocks q_p1_readers q_p1_eighths q_p1_wishes v_this_known v_this_blanks (v_this_many + 1) v_this_best f_this_bestFill f_this_seen f_this_whole f_this_fill v_p1_words v_p1_roads f_p1_weights) := hD
  refine lv_iconst (v := 0) hx hb dX10_note_10 (by decide) ?_
  refine lv_istore_n (lv' := [(3, .int 0), (0, .ref q_this), (1, .ref q_p1), (2, .int x2)]) hx hb dX10_note_11 rfl hl (by decide) rfl (fun ls hl => ?_)
  exact L12 (v_this_many + 1) v_this_best f_this_bestFill N 0 f_this_seen _ _ _ hP hD hS (lv_sub hl [1, 2, 3, 0] rfl) hf
def ex_X10_seek_96 (N : Nat) (x3 : Int32) (v_this_known : Int32) (v_this_blanks : Int32) (v_this_many : Int32) (v_this_best : Int32) (f_this_bestFill : Nat → Int32) (f_this_seen : Nat → Int32) (f_this_whole : Nat → Int32) (f_this_holes : Nat → Int32) (f_this_fill : Nat → Int32) (v_p1_words : Int32) (v_p1_roads : Int32) (f_p1_kinds : Nat → Int32) (f_p1_sets : Nat → Int32) (f_p1_weights : Nat → Int32) (f_p1_readers : Nat → Int32) (f_p1_eighths : Nat → Int32) (f_p1_wishes : Nat → Int32) (v_p2_places : Int32) (Φ : Int32 → Int32 → Int32 → Int32 → (Nat → Int32) → (Nat → Int32) → (Nat → Int32) → (Nat → Int32) → (Nat → Int32) → Prop) (r55 : Int32 → Int32 → Int32 → (Nat → Int32) → (Nat → Int32) → (Nat → Int32) → (Nat → Int32) → Prop) : Prop := 
    wp_X8_firstAgainst N 12 v_p2_places v_p1_words v_p1_roads f_p1_kinds f_p1_sets f_p1_readers f_p1_eighths f_p1_wishes f_this_whole (fun r1 => 
     ((r1 = (-9) → wp_X10_note N v_p2_places v_this_blanks v_this_many v_this_best f_this_bestFill f_this_seen f_this_whole f_this_fill f_p1_weights (fun o4_0 o4_1 o4_2 o4_3 => 
     wp_X5_step N 4 v_this_blanks v_p1_words f_this_fill (fun o5_0 => 
     r55 (x3 + (-1)) o4_0 o4_1 o4_2 o4_3 f_this_whole o5_0))) ∧
     (¬ (r1 = (-9)) → wp_X5_step N 4 v_this_blanks v_p1_words f_this_fill (fun o3_0 => 
     r55 (x3 + (-1)) v_this_many v_this_best f_this_bestFill f_this_seen f_this_whole o3_0))))
def lp_X10_seek_62 (N : Nat) (v_this_blanks : Int32) (f_this_holes : Nat → Int32) (f_this_fill : Nat → Int32) (Φ : Int32 → Int32 → Int32 → Int32 → (Nat → Int32) → (Nat → Int32) → (Nat → Int32) → (Nat → Int32) → (Nat → Int32) → Prop) (k96 : (Nat → Int32) → Prop) : Nat → Int32 → (Nat → Int32) → Prop
  | 0, _, _ => False
  | n + 1, x4, f_this_whole => 
    ((v_this_blanks ≤ x4 → k96 f_this_whole) ∧
     (¬ (v_this_blanks ≤ x4) → (vp_in x4 4 ∧ (vp_in x4 4 ∧ (vp_in (f_this_holes (Int32.toNatClampNeg x4)) 12 ∧ (lp_X10_seek_62 N v_this_blanks f_this_holes f_this_fill Φ k96 n) (x4 + 1) (upd f_this_whole (Int32.toNatClampNeg (f_this_holes (Int32.toNatClampNeg x4))) (f_this_fill (Int32.toNatClampNeg x4))))))))
def lp_X10_seek_55 (N : Nat) (v_this_known : Int32) (v_this_blanks : Int32) (f_this_holes : Nat → Int32) (v_p1_words : Int32) (v_p1_roads : Int32) (f_p1_kinds : Nat → Int32) (f_p1_sets : Nat → Int32) (f_p1_weights : Nat → Int32) (f_p1_readers : Nat → Int32) (f_p1_eighths : Nat → Int32) (f_p1_wishes : Nat → Int32) (v_p2_places : Int32) (Φ : Int32 → Int32 → Int32 → Int32 → (Nat → Int32) → (Nat → Int32) → (Nat → Int32) → (Nat → Int32) → (Nat → Int32) → Prop) : Nat → Int32 → Int32 → Int32 → (Nat → Int32) → (Nat → Int32) → (Nat → Int32) → (Nat → Int32) → Prop
  | 0, _, _, _, _, _, _, _ => False
  | n + 1, x3, v_this_many, v_this_best, f_this_bestFill, f_this_seen, f_this_whole, f_this_fill => 
    ((x3 ≤ 0 → Φ 1 v_this_blanks v_this_many v_this_best f_this_bestFill f_this_seen f_this_whole f_this_holes f_this_fill) ∧
     (¬ (x3 ≤ 0) → lp_X10_seek_62 N v_this_blanks f_this_holes f_this_fill Φ (fun f_this_wholeh62 => ex_X10_seek_96 N x3 v_this_known v_this_blanks v_this_many v_this_best f_this_bestFill f_this_seen f_this_wholeh62 f_this_holes f_this_fill v_p1_words v_p1_roads f_p1_kinds f_p1_sets f_p1_weights f_p1_readers f_p1_eighths f_p1_wishes v_p2_places Φ (lp_X10_seek_55 N v_this_known v_this_blanks f_this_holes v_p1_words v_p1_roads f_p1_kinds f_p1_sets f_p1_weights f_p1_readers f_p1_eighths f_p1_wishes v_p2_places Φ n)) N 0 f_this_whole))
def wp_X10_seek (N : Nat) (v_this_known : Int32) (v_this_blanks : Int32) (v_this_many : Int32) (v_this_best : Int32) (f_this_bestFill : Nat → Int32) (f_this_seen : Nat → Int32) (f_this_whole : Nat → Int32) (f_this_holes : Nat → Int32) (f_this_fill : Nat → Int32) (v_p1_words : Int32) (v_p1_roads : Int32) (f_p1_kinds : Nat → Int32) (f_p1_sets : Nat → Int32) (f_p1_weights : Nat → Int32) (f_p1_readers : Nat → Int32) (f_p1_eighths : Nat → Int32) (f_p1_wishes : Nat → Int32) (v_p2_places : Int32) (f_p2_has : Nat → Int32) (Φ : Int32 → Int32 → Int32 → Int32 → (Nat → Int32) → (Nat → Int32) → (Nat → Int32) → (Nat → Int32) → (Nat → Int32) → Prop) : Prop := 
    ((v_this_known = 0 → wp_J7_fill_53178 N 12 0 f_this_seen (fun o2_0 => 
     wp_X10_findHoles N v_this_blanks f_this_whole f_this_holes v_p2_places f_p2_has (fun o3_0 o3_1 o3_2 => 
     wp_X5_begin N 4 o3_0 f_this_fill (fun o4_0 => 
     wp_X5_howMany N v_p1_words o3_0 (fun r5 => 
     lp_X10_seek_55 N v_this_known o3_0 o3_2 v_p1_words v_p1_roads f_p1_kinds f_p1_sets f_p1_weights f_p1_readers f_p1_eighths f_p1_wishes v_p2_places Φ N r5 0 (-9) f_this_bestFill o2_0 o3_1 o4_0))))) ∧
     (¬ (v_this_known = 0) → Φ v_this_known v_this_blanks v_this_many v_this_best f_this_bestFill f_this_seen f_this_whole f_this_holes f_this_fill))
abbrev zW_X10_seek (cI cC cS : ClassId) (q_this : Nat) (q_this_bestFill : Nat) (q_this_seen : Nat) (q_this_whole : Nat) (q_this_holes : Nat) (q_this_fill : Nat) (q_p1 : Nat) (q_p1_kinds : Nat) (q_p1_sets : Nat) (q_p1_weights : Nat) (q_p1_readers : Nat) (q_p1_eighths : Nat) (q_p1_wishes : Nat) (q_p2 : Nat) (q_p2_has : Nat) (q_p1_stocks : Nat) (v_this_known : Int32) (v_this_blanks : Int32) (v_this_many : Int32) (v_this_best : Int32) (f_this_bestFill : Nat → Int32) (f_this_seen : Nat → Int32) (f_this_whole : Nat → Int32) (f_this_holes : Nat → Int32) (f_this_fill : Nat → Int32) (v_p1_words : Int32) (v_p1_roads : Int32) (f_p1_kinds : Nat → Int32) (f_p1_sets : Nat → Int32) (f_p1_weights : Nat → Int32) (f_p1_readers : Nat → Int32) (f_p1_eighths : Nat → Int32) (f_p1_wishes : Nat → Int32) (v_p2_places : Int32) (f_p2_has : Nat → Int32) : va_W := [(q_this, .inr (9, [.int v_this_known, .int v_this_blanks, .int v_this_many, .int v_this_best, .ref q_this_bestFill, .ref q_this_seen, .ref q_this_whole, .ref q_this_holes, .ref q_this_fill])),
  (q_this_bestFill, .inl (cI, 4, .inl f_this_bestFill)),
  (q_this_seen, .inl (cI, 12, .inl f_this_seen)),
  (q_this_whole, .inl (cI, 12, .inl f_this_whole)),
  (q_this_holes, .inl (cI, 4, .inl f_this_holes)),
  (q_this_fill, .inl (cI, 4, .inl f_this_fill)),
  (q_p1, .inr (7, [.ref q_p1_kinds, .ref q_p1_sets, .ref q_p1_weights, .ref q_p1_stocks, .int v_p1_words, .ref q_p1_readers, .ref q_p1_eighths, .ref q_p1_wishes, .int v_p1_roads])),
  (q_p1_kinds, .inl (cI, 6, .inl f_p1_kinds)),
  (q_p1_sets, .inl (cI, 6, .inl f_p1_sets)),
  (q_p1_weights, .inl (cI, 6, .inl f_p1_weights)),
  (q_p1_readers, .inl (cI, 6, .inl f_p1_readers)),
  (q_p1_eighths, .inl (cI, 6, .inl f_p1_eighths)),
  (q_p1_wishes, .inl (cI, 6, .inl f_p1_wishes)),
  (q_p2, .inr (4, [.ref q_p2_has, .int v_p2_places])),
  (q_p2_has, .inl (cI, 12, .inl f_p2_has))]
abbrev zr_X10_seek : Room := { frames := 4, cells := 0, slots := 0, locals := 102 }
set_option maxHeartbeats 4000000 in
set_option maxRecDepth 100000 in
theorem c_X10_seek (l : Launch) (dC : Nat → ClassId) (dI : Nat → Nat → Nat) (cI cC cS : ClassId) (q_this : Nat) (q_this_bestFill : Nat) (q_this_seen : Nat) (q_this_whole : Nat) (q_this_holes : Nat) (q_this_fill : Nat) (q_p1 : Nat) (q_p1_kinds : Nat) (q_p1_sets : Nat) (q_p1_weights : Nat) (q_p1_readers : Nat) (q_p1_eighths : Nat) (q_p1_wishes : Nat) (q_p2 : Nat) (q_p2_has : Nat) (q_p1_stocks : Nat) (sz : Nat) (v_this_known : Int32) (v_this_blanks : Int32) (v_this_many : Int32) (v_this_best : Int32) (f_this_bestFill : Nat → Int32) (f_this_seen : Nat → Int32) (f_this_whole : Nat → Int32) (f_this_holes : Nat → Int32) (f_this_fill : Nat → Int32) (v_p1_words : Int32) (v_p1_roads : Int32) (f_p1_kinds : Nat → Int32) (f_p1_sets : Nat → Int32) (f_p1_weights : Nat → Int32) (f_p1_readers : Nat → Int32) (f_p1_eighths : Nat → Int32) (f_p1_wishes : Nat → Int32) (v_p2_places : Int32) (f_p2_has : Nat → Int32) (N : Nat) (Φ : Int32 → Int32 → Int32 → Int32 → (Nat → Int32) → (Nat → Int32) → (Nat → Int32) → (Nat → Int32) → (Nat → Int32) → Prop)  (hf : wp_X10_seek N v_this_known v_this_blanks v_this_many v_this_best f_this_bestFill f_this_seen f_this_whole f_this_holes f_this_fill v_p1_words v_p1_roads f_p1_kinds f_p1_sets f_p1_weights f_p1_readers f_p1_eighths f_p1_wishes v_p2_places f_p2_has Φ) : Met l yX10_seek wsX10_seek zr_X10_seek (zPc (dC, dI) (zT cI cC cS) [.ref q_this, .ref q_p1, .ref q_p2] sz (zW_X10_seek cI cC cS q_this q_this_bestFill q_this_seen q_this_whole q_this_holes q_this_fill q_p1 q_p1_kinds q_p1_sets q_p1_weights q_p1_readers q_p1_eighths q_p1_wishes q_p2 q_p2_has q_p1_stocks v_this_known v_this_blanks v_this_many v_this_best f_this_bestFill f_this_seen f_this_whole f_this_holes f_this_fill v_p1_words v_p1_roads f_p1_kinds f_p1_sets f_p1_weights f_p1_readers f_p1_eighths f_p1_wishes v_p2_places f_p2_has)) (zQv (dC, dI) (zT cI cC cS) (va_A (zW_X10_seek cI cC cS q_this q_this_bestFill q_this_seen q_this_whole q_this_holes q_this_fill q_p1 q_p1_kinds q_p1_sets q_p1_weights q_p1_readers q_p1_eighths q_p1_wishes q_p2 q_p2_has q_p1_stocks v_this_known v_this_blanks v_this_many v_this_best f_this_bestFill f_this_seen f_this_whole f_this_holes f_this_fill v_p1_words v_p1_roads f_p1_kinds f_p1_sets f_p1_weights f_p1_readers f_p1_eighths f_p1_wishes v_p2_places f_p2_has) sz) (fun (u : (Int32) × (Int32) × (Int32) × (Int32) × (Nat → Int32) × (Nat → Int32) × (Nat → Int32) × (Nat → Int32) × (Nat → Int32)) => Φ u.1 u.2.1 u.2.2.1 u.2.2.2.1 u.2.2.2.2.1 u.2.2.2.2.2.1 u.2.2.2.2.2.2.1 u.2.2.2.2.2.2.2.1 u.2.2.2.2.2.2.2.2) (fun u => (zW_X10_seek cI cC cS q_this q_this_bestFill q_this_seen q_this_whole q_this_holes q_this_fill q_p1 q_p1_kinds q_p1_sets q_p1_weights q_p1_readers q_p1_eighths q_p1_wishes q_p2 q_p2_has q_p1_stocks u.1 u.2.1 u.2.2.1 u.2.2.2.1 u.2.2.2.2.1 u.2.2.2.2.2.1 u.2.2.2.2.2.2.1 u.2.2.2.2.2.2.2.1 u.2.2.2.2.2.2.2.2 v_p1_words v_p1_roads f_p1_kinds f_p1_sets f_p1_weights f_p1_readers f_p1_eighths f_p1_wishes v_p2_places f_p2_has))) 0 0 (va_A (zW_X10_seek cI cC cS q_this q_this_bestFill q_this_seen q_this_whole q_this_holes q_this_fill q_p1 q_p1_kinds q_p1_sets q_p1_weights q_p1_readers q_p1_eighths q_p1_wishes q_p2 q_p2_has q_p1_stocks v_this_known v_this_blanks v_this_many v_this_best f_this_bestFill f_this_seen f_this_whole f_this_holes f_this_fill v_p1_words v_p1_roads f_p1_kinds f_p1_sets f_p1_weights f_p1_readers f_p1_eighths f_p1_wishes v_p2_places f_p2_has) sz) := by
  refine Met.ofW (cc := cX10_seek) (maxL := 5) (ret := none) (by decide) rfl ?_
  intro p e s m args below meth c s₁ B hml hv
  obtain ⟨rfl, hsz, hP, hK, hD0⟩ := hv
  have hx := B.exec
  have hb := B.bytes
  have hr := B.returns
  have hts := atoms_spec (ws := wsX10_seek) B.pre
  have hown : s.vm.findClass RX10 = some m.cls := findClass_of_methodNamed B.named
  have hlocks := B.notSynchronized
  subst hsz
  have hD := hD0.self (sz := s.heap.size)
  have hA : ∀ q : Nat, s.heap.size ≤ q → va_A (zW_X10_seek cI cC cS q_this q_this_bestFill q_this_seen q_this_whole q_this_holes q_this_fill q_p1 q_p1_kinds q_p1_sets q_p1_weights q_p1_readers q_p1_eighths q_p1_wishes q_p2 q_p2_has q_p1_stocks v_this_known v_this_blanks v_this_many v_this_best f_this_bestFill f_this_seen f_this_whole f_this_holes f_this_fill v_p1_words v_p1_roads f_p1_kinds f_p1_sets f_p1_weights f_p1_readers f_p1_eighths f_p1_wishes v_p2_places f_p2_has) s.heap.size q := fun q h => Or.inr h
  generalize va_A (zW_X10_seek cI cC cS q_this q_this_bestFill q_this_seen q_this_whole q_this_holes q_this_fill q_p1 q_p1_kinds q_p1_sets q_p1_weights q_p1_readers q_p1_eighths q_p1_wishes q_p2 q_p2_has q_p1_stocks v_this_known v_this_blanks v_this_many v_this_best f_this_bestFill f_this_seen f_this_whole f_this_holes f_this_fill v_p1_words v_p1_roads f_p1_kinds f_p1_sets f_p1_weights f_p1_readers f_p1_eighths f_p1_wishes v_p2_places f_p2_has) s.heap.size = A at hD hA ⊢
  have hS : va_S A s.heap s.heap [] := va_S.rf
  have hl := lv_entry ([.ref q_this, .ref q_p1, .ref q_p2]) (n := 5) (Nat.le_of_ble_eq_true rfl)
  rw [lg_entry_eq]
  generalize (lg_sl ([.ref q_this, .ref q_p1, .ref q_p2]) ++ List.replicate (5 - (lg_sl ([.ref q_this, .ref q_p1, .ref q_p2])).length) Slot.unset).toArray = ls at hl ⊢
  have hl : lv_has ls 5 [(0, .ref q_this), (1, .ref q_p1), (2, .ref q_p2)] := hl
  have lk8 := hts (.fieldLink RX10 32 "ReadFromAnywhere$WornSearch" "whole" "[I") (List.mem_of_getElem? (i := 8) rfl)
  have inX10 : ∀ w ∈ u_ws RX10 TX10 9, w ∈ wsX10_seek := fun _ h => List.mem_cons_of_mem _ (List.mem_append_left _ (List.mem_append_left _ (List.mem_append_right _ h)))
  have lk10 := hts (.fieldLink RX10 64 "ReadFromAnywhere$Ring" "places" "I") (List.mem_of_getElem? (i := 10) rfl)
  have inX4 : ∀ w ∈ u_ws RX4 TX4 2, w ∈ wsX10_seek := fun _ h => List.mem_cons_of_mem _ (List.mem_append_right _ h)
  have lk5 := hts (.fieldLink RX10 38 "ReadFromAnywhere$WornSearch" "fill" "[I") (List.mem_of_getElem? (i := 5) rfl)
  have lk6 := hts (.fieldLink RX10 15 "ReadFromAnywhere$WornSearch" "blanks" "I") (List.mem_of_getElem? (i := 6) rfl)
  have lk7 := hts (.fieldLink RX10 55 "ReadFromAnywhere$Tongue" "words" "I") (List.mem_of_getElem? (i := 7) rfl)
  have inX8 : ∀ w ∈ u_ws RX8 TX8 9, w ∈ wsX10_seek := fun _ h => List.mem_cons_of_mem _ (List.mem_append_left _ (List.mem_append_right _ h))
  have lk9 := hts (.fieldLink RX10 35 "ReadFromAnywhere$WornSearch" "holes" "[I") (List.mem_of_getElem? (i := 9) rfl)
  have lk1 := hts (.fieldLink RX10 9 "ReadFromAnywhere$WornSearch" "known" "Z") (List.mem_of_getElem? (i := 1) rfl)
  have lk2 := hts (.fieldLink RX10 19 "ReadFromAnywhere$WornSearch" "many" "I") (List.mem_of_getElem? (i := 2) rfl)
  have lk3 := hts (.fieldLink RX10 22 "ReadFromAnywhere$WornSearch" "best" "I") (List.mem_of_getElem? (i := 3) rfl)
  have lk4 := hts (.fieldLink RX10 29 "ReadFromAnywhere$WornSearch" "seen" "[I") (List.mem_of_getElem? (i := 4) rfl)
  have L55 : ∀ (v_this_known : Int32) (v_this_blanks : Int32) (f_this_holes : Nat → Int32), ∀ (n55 : Nat) (x3 : Int32) (v_this_many : Int32) (v_this_best : Int32) (f_this_bestFill : Nat → Int32) (f_this_seen : Nat → Int32) (f_this_whole : Nat → Int32) (f_this_fill : Nat → Int32), ∀ (H : Heap) (locs : List Loc) (ls : Array Slot), va_P (dC, dI) vwCl (zW_X10_seek cI cC cS q_this q_this_bestFill q_this_seen q_this_whole q_this_holes q_this_fill q_p1 q_p1_kinds q_p1_sets q_p1_weights q_p1_readers q_p1_eighths q_p1_wishes q_p2 q_p2_has q_p1_stocks v_this_known v_this_blanks v_this_many v_this_best f_this_bestFill f_this_seen f_this_whole f_this_holes f_this_fill v_p1_words v_p1_roads f_p1_kinds f_p1_sets f_p1_weights f_p1_readers f_p1_eighths f_p1_wishes v_p2_places f_p2_has) H → va_D A (zW_X10_seek cI cC cS q_this q_this_bestFill q_this_seen q_this_whole q_this_holes q_this_fill q_p1 q_p1_kinds q_p1_sets q_p1_weights q_p1_readers q_p1_eighths q_p1_wishes q_p2 q_p2_has q_p1_stocks v_this_known v_this_blanks v_this_many v_this_best f_this_bestFill f_this_seen f_this_whole f_this_holes f_this_fill v_p1_words v_p1_roads f_p1_kinds f_p1_sets f_p1_weights f_p1_readers f_p1_eighths f_p1_wishes v_p2_places f_p2_has) → va_S A s.heap H locs → lv_has ls 5 [(0, .ref q_this), (1, .ref q_p1), (2, .ref q_p2), (3, .int x3)] → lp_X10_seek_55 N v_this_known v_this_blanks f_this_holes v_p1_words v_p1_roads f_p1_kinds f_p1_sets f_p1_weights f_p1_readers f_p1_eighths f_p1_wishes v_p2_places Φ n55 x3 v_this_many v_this_best f_this_bestFill f_this_seen f_this_whole f_this_fill → W p l e (headSpec wsX10_seek zr_X10_seek).room s m ([.ref q_this, .ref q_p1, .ref q_p2] : List Value).toArray below meth c H locs 0 0 (MQ below (zQv (dC, dI) (zT cI cC cS) A (fun (u : (Int32) × (Int32) × (Int32) × (Int32) × (Nat → Int32) × (Nat → Int32) × (Nat → Int32) × (Nat → Int32) × (Nat → Int32)) => Φ u.1 u.2.1 u.2.2.1 u.2.2.2.1 u.2.2.2.2.1 u.2.2.2.2.2.1 u.2.2.2.2.2.2.1 u.2.2.2.2.2.2.2.1 u.2.2.2.2.2.2.2.2) (fun u => (zW_X10_seek cI cC cS q_this q_this_bestFill q_this_seen q_this_whole q_this_holes q_this_fill q_p1 q_p1_kinds q_p1_sets q_p1_weights q_p1_readers q_p1_eighths q_p1_wishes q_p2 q_p2_has q_p1_stocks u.1 u.2.1 u.2.2.1 u.2.2.2.1 u.2.2.2.2.1 u.2.2.2.2.2.1 u.2.2.2.2.2.2.1 u.2.2.2.2.2.2.2.1 u.2.2.2.2.2.2.2.2 v_p1_words v_p1_roads f_p1_kinds f_p1_sets f_p1_weights f_p1_readers f_p1_eighths f_p1_wishes v_p2_places f_p2_has))) ([.ref q_this, .ref q_p1, .ref q_p2] : List Value).toArray s 0 0 A) (F0 m 55 ls []) := by
    intro v_this_known v_this_blanks f_this_holes
    intro n55
    induction n55 with
    | zero =>
      intro x3 v_this_many v_this_best f_this_bestFill f_this_seen f_this_whole f_this_fill H locs ls hP hD hS hl hf
      exact absurd hf (by rw [lp_X10_seek_55]; exact id)
    | succ n55 ih55 =>
      have E96 : ∀ (x3 : Int32) (v_this_many : Int32) (v_this_best : Int32) (f_this_bestFill : Nat → Int32) (f_this_seen : Nat → Int32) (f_this_whole : Nat → Int32) (f_this_fill : Nat → Int32), ∀ (H : Heap) (locs : List Loc) (ls : Array Slot), va_P (dC, dI) vwCl (zW_X10_seek cI cC cS q_this q_this_bestFill q_this_seen q_this_whole q_this_holes q_this_fill q_p1 q_p1_kinds q_p1_sets q_p1_weights q_p1_readers q_p1_eighths q_p1_wishes q_p2 q_p2_has q_p1_stocks v_this_known v_this_blanks v_this_many v_this_best f_this_bestFill f_this_seen f_this_whole f_this_holes f_this_fill v_p1_words v_p1_roads f_p1_kinds f_p1_sets f_p1_weights f_p1_readers f_p1_eighths f_p1_wishes v_p2_places f_p2_has) H → va_D A (zW_X10_seek cI cC cS q_this q_this_bestFill q_this_seen q_this_whole q_this_holes q_this_fill q_p1 q_p1_kinds q_p1_sets q_p1_weights q_p1_readers q_p1_eighths q_p1_wishes q_p2 q_p2_has q_p1_stocks v_this_known v_this_blanks v_this_many v_this_best f_this_bestFill f_this_seen f_this_whole f_this_holes f_this_fill v_p1_words v_p1_roads f_p1_kinds f_p1_sets f_p1_weights f_p1_readers f_p1_eighths f_p1_wishes v_p2_places f_p2_has) → va_S A s.heap H locs → lv_has ls 5 [(0, .ref q_this), (1, .ref q_p1), (2, .ref q_p2), (3, .int x3)] → ex_X10_seek_96 N x3 v_this_known v_this_blanks v_this_many v_this_best f_this_bestFill f_this_seen f_this_whole f_this_holes f_this_fill v_p1_words v_p1_roads f_p1_kinds f_p1_sets f_p1_weights f_p1_readers f_p1_eighths f_p1_wishes v_p2_places Φ (lp_X10_seek_55 N v_this_known v_this_blanks f_this_holes v_p1_words v_p1_roads f_p1_kinds f_p1_sets f_p1_weights f_p1_readers f_p1_eighths f_p1_wishes v_p2_places Φ n55) → W p l e (headSpec wsX10_seek zr_X10_seek).room s m ([.ref q_this, .ref q_p1, .ref q_p2] : List Value).toArray below meth c H locs 0 0 (MQ below (zQv (dC, dI) (zT cI cC cS) A (fun (u : (Int32) × (Int32) × (Int32) × (Int32) × (Nat → Int32) × (Nat → Int32) × (Nat → Int32) × (Nat → Int32) × (Nat → Int32)) => Φ u.1 u.2.1 u.2.2.1 u.2.2.2.1 u.2.2.2.2.1 u.2.2.2.2.2.1 u.2.2.2.2.2.2.1 u.2.2.2.2.2.2.2.1 u.2.2.2.2.2.2.2.2) (fun u => (zW_X10_seek cI cC cS q_this q_this_bestFill q_this_seen q_this_whole q_this_holes q_this_fill q_p1 q_p1_kinds q_p1_sets q_p1_weights q_p1_readers q_p1_eighths q_p1_wishes q_p2 q_p2_has q_p1_stocks u.1 u.2.1 u.2.2.1 u.2.2.2.1 u.2.2.2.2.1 u.2.2.2.2.2.1 u.2.2.2.2.2.2.1 u.2.2.2.2.2.2.2.1 u.2.2.2.2.2.2.2.2 v_p1_words v_p1_roads f_p1_kinds f_p1_sets f_p1_weights f_p1_readers f_p1_eighths f_p1_wishes v_p2_places f_p2_has))) ([.ref q_this, .ref q_p1, .ref q_p2] : List Value).toArray s 0 0 A) (F0 m 96 ls []) := by
        intro x3 v_this_many v_this_best f_this_bestFill f_this_seen f_this_whole f_this_fill H locs ls hP hD hS hl hf
        unfold ex_X10_seek_96 at hf
        refine lv_aload_n hx hb dX10_seek_96 rfl (lv_at hl 1 rfl) ?_
        refine lv_aload_n hx hb dX10_seek_97 rfl (lv_at hl 0 rfl) ?_
        refine va_get (D := (dC, dI)) (ci := 9) (v := .ref q_this_whole) (C := RX10) (T := TX10) (N := 9) hx hb hts inX10 hown hK hP 0 rfl rfl 6 (by decide) lk8 (fun _ h9 => h9) rfl dX10_seek_98 ?_
        refine lv_aload_n hx hb dX10_seek_101 rfl (lv_at hl 2 rfl) ?_
        refine va_get (D := (dC, dI)) (ci := 4) (v := .int v_p2_places) (C := RX4) (T := TX4) (N := 2) hx hb hts inX4 hown hK hP 13 rfl rfl 1 (by decide) lk10 (fun _ h9 => h9) rfl dX10_seek_102 ?_
        refine z_Vi (n := 2) (As := [.ref q_this_whole, .int v_p2_places]) (rest := []) ⟨hx, hb, hml, hown, hts⟩ (c_X8_firstAgainst l dC dI cI cC cS q_p1 q_p1_kinds q_p1_sets q_p1_readers q_p1_eighths q_p1_wishes q_this_whole q_p1_weights q_p1_stocks _ 12 v_p1_words v_p1_roads f_p1_kinds f_p1_sets f_p1_readers f_p1_eighths f_p1_wishes f_this_whole v_p2_places N _  hf) gX10_seek_X8_firstAgainst rfl rfl rfl (by decide +kernel) ⟨Nat.le_of_ble_eq_true rfl, Nat.le_of_ble_eq_true rfl⟩ hK hP hD hS hA 6 7 rfl rfl rfl hl.1 rfl (Nat.le_of_ble_eq_true rfl) dX10_seek_105 ⟨Nat.zero_le _, Nat.zero_le _⟩ [6, 7, 8, 10, 11, 12, 3] [0, 1, 2, 4, 5, 9, 13, 14] (([(q_this, .inr (9, [.int v_this_known, .int v_this_blanks, .int v_this_many, .int v_this_best, .ref q_this_bestFill, .ref q_this_seen, .ref q_this_whole, .ref q_this_holes, .ref q_this_fill])), (q_this_bestFill, .inl (cI, 4, .inl f_this_bestFill)), (q_this_seen, .inl (cI, 12, .inl f_this_seen)), (q_this_holes, .inl (cI, 4, .inl f_this_holes)), (q_this_fill, .inl (cI, 4, .inl f_this_fill)), (q_p1_weights, .inl (cI, 6, .inl f_p1_weights)), (q_p2, .inr (4, [.ref q_p2_has, .int v_p2_places])), (q_p2_has, .inl (cI, 12, .inl f_p2_has))] : va_W)) rfl rfl (by decide) (by decide) (by decide) (fun u => (zW_X10_seek cI cC cS q_this q_this_bestFill q_this_seen q_this_whole q_this_holes q_this_fill q_p1 q_p1_kinds q_p1_sets q_p1_weights q_p1_readers q_p1_eighths q_p1_wishes q_p2 q_p2_has q_p1_stocks v_this_known v_this_blanks v_this_many v_this_best f_this_bestFill f_this_seen f_this_whole f_this_holes f_this_fill v_p1_words v_p1_roads f_p1_kinds f_p1_sets f_p1_weights f_p1_readers f_p1_eighths f_p1_wishes v_p2_places f_p2_has)) [0, 1, 2, 14, 3, 4, 8, 9, 10, 5, 11, 12, 13, 6, 7] (fun u => rfl) (by decide) (fun r1 u1 H locs hf hP hD hS => ?_)
        have hP : va_P (dC, dI) vwCl (zW_X10_seek cI cC cS q_this q_this_bestFill q_this_seen q_this_whole q_this_holes q_this_fill q_p1 q_p1_kinds q_p1_sets q_p1_weights q_p1_readers q_p1_eighths q_p1_wishes q_p2 q_p2_has q_p1_stocks v_this_known v_this_blanks v_this_many v_this_best f_this_bestFill f_this_seen f_this_whole f_this_holes f_this_fill v_p1_words v_p1_roads f_p1_kinds f_p1_sets f_p1_weights f_p1_readers f_p1_eighths f_p1_wishes v_p2_places f_p2_has) H := hP
        have hD : va_D A (zW_X10_seek cI cC cS q_this q_this_bestFill q_this_seen q_this_whole q_this_holes q_this_fill q_p1 q_p1_kinds q_p1_sets q_p1_weights q_p1_readers q_p1_eighths q_p1_wishes q_p2 q_p2_has q_p1_stocks v_this_known v_this_blanks v_this_many v_this_best f_this_bestFill f_this_seen f_this_whole f_this_holes f_this_fill v_p1_words v_p1_roads f_p1_kinds f_p1_sets f_p1_weights f_p1_readers f_p1_eighths f_p1_wishes v_p2_places f_p2_has) := hD
        refine lv_bipush (v := (-9)) hx hb dX10_seek_108 (by decide) ?_
        refine lv_icmp_ne (tgt := 122) hx hb dX10_seek_110 (by decide) (fun c2 => ?_) (fun c2 => ?_)
        · replace hf := hf.2 c2
          refine lv_aload_n hx hb dX10_seek_122 rfl (lv_at hl 0 rfl) ?_
          refine va_get (D := (dC, dI)) (ci := 9) (v := .ref q_this_fill) (C := RX10) (T := TX10) (N := 9) hx hb hts inX10 hown hK hP 0 rfl rfl 8 (by decide) lk5 (fun _ h9 => h9) rfl dX10_seek_123 ?_
          refine lv_aload_n hx hb dX10_seek_126 rfl (lv_at hl 0 rfl) ?_
          refine va_get (D := (dC, dI)) (ci := 9) (v := .int v_this_blanks) (C := RX10) (T := TX10) (N := 9) hx hb hts inX10 hown hK hP 0 rfl rfl 1 (by decide) lk6 (fun _ h9 => h9) rfl dX10_seek_127 ?_
          refine lv_aload_n hx hb dX10_seek_130 rfl (lv_at hl 1 rfl) ?_
          refine va_get (D := (dC, dI)) (ci := 7) (v := .int v_p1_words) (C := RX8) (T := TX8) (N := 9) hx hb hts inX8 hown hK hP 6 rfl rfl 4 (by decide) lk7 (fun _ h9 => h9) rfl dX10_seek_131 ?_
          refine z_Sv (n := 3) (As := [.ref q_this_fill, .int v_this_blanks, .int v_p1_words]) (rest := []) ⟨hx, hb, hml, hown, hts⟩ (c_X5_step l dC dI cI cC cS q_this_fill _ 4 f_this_fill v_this_blanks v_p1_words N _  hf) gX10_seek_X5_step rfl rfl rfl (by decide +kernel) ⟨Nat.le_of_ble_eq_true rfl, Nat.le_of_ble_eq_true rfl⟩ hK hP hD hS hA rfl hl.1 rfl (Nat.le_of_ble_eq_true rfl) dX10_seek_134 ⟨Nat.zero_le _, Nat.zero_le _⟩ [5] [0, 1, 2, 3, 4, 6, 7, 8, 9, 10, 11, 12, 13, 14] (([(q_this, .inr (9, [.int v_this_known, .int v_this_blanks, .int v_this_many, .int v_this_best, .ref q_this_bestFill, .ref q_this_seen, .ref q_this_whole, .ref q_this_holes, .ref q_this_fill])), (q_this_bestFill, .inl (cI, 4, .inl f_this_bestFill)), (q_this_seen, .inl (cI, 12, .inl f_this_seen)), (q_this_whole, .inl (cI, 12, .inl f_this_whole)), (q_this_holes, .inl (cI, 4, .inl f_this_holes)), (q_p1, .inr (7, [.ref q_p1_kinds, .ref q_p1_sets, .ref q_p1_weights, .ref q_p1_stocks, .int v_p1_words, .ref q_p1_readers, .ref q_p1_eighths, .ref q_p1_wishes, .int v_p1_roads])), (q_p1_kinds, .inl (cI, 6, .inl f_p1_kinds)), (q_p1_sets, .inl (cI, 6, .inl f_p1_sets)), (q_p1_weights, .inl (cI, 6, .inl f_p1_weights)), (q_p1_readers, .inl (cI, 6, .inl f_p1_readers)), (q_p1_eighths, .inl (cI, 6, .inl f_p1_eighths)), (q_p1_wishes, .inl (cI, 6, .inl f_p1_wishes)), (q_p2, .inr (4, [.ref q_p2_has, .int v_p2_places])), (q_p2_has, .inl (cI, 12, .inl f_p2_has))] : va_W)) rfl rfl (by decide) (by decide) (by decide) (fun u => (zW_X10_seek cI cC cS q_this q_this_bestFill q_this_seen q_this_whole q_this_holes q_this_fill q_p1 q_p1_kinds q_p1_sets q_p1_weights q_p1_readers q_p1_eighths q_p1_wishes q_p2 q_p2_has q_p1_stocks v_this_known v_this_blanks v_this_many v_this_best f_this_bestFill f_this_seen f_this_whole f_this_holes u v_p1_words v_p1_roads f_p1_kinds f_p1_sets f_p1_weights f_p1_readers f_p1_eighths f_p1_wishes v_p2_places f_p2_has)) [0, 1, 2, 3, 4, 14, 5, 6, 7, 8, 9, 10, 11, 12, 13] (fun u => rfl) (by decide) (fun u3 H locs hf hP hD hS => ?_)
          have hP : va_P (dC, dI) vwCl (zW_X10_seek cI cC cS q_this q_this_bestFill q_this_seen q_this_whole q_this_holes q_this_fill q_p1 q_p1_kinds q_p1_sets q_p1_weights q_p1_readers q_p1_eighths q_p1_wishes q_p2 q_p2_has q_p1_stocks v_this_known v_this_blanks v_this_many v_this_best f_this_bestFill f_this_seen f_this_whole f_this_holes u3 v_p1_words v_p1_roads f_p1_kinds f_p1_sets f_p1_weights f_p1_readers f_p1_eighths f_p1_wishes v_p2_places f_p2_has) H := hP
          have hD : va_D A (zW_X10_seek cI cC cS q_this q_this_bestFill q_this_seen q_this_whole q_this_holes q_this_fill q_p1 q_p1_kinds q_p1_sets q_p1_weights q_p1_readers q_p1_eighths q_p1_wishes q_p2 q_p2_has q_p1_stocks v_this_known v_this_blanks v_this_many v_this_best f_this_bestFill f_this_seen f_this_whole f_this_holes u3 v_p1_words v_p1_roads f_p1_kinds f_p1_sets f_p1_weights f_p1_readers f_p1_eighths f_p1_wishes v_p2_places f_p2_has) := hD
          refine lv_iinc (v := (x3 + (-1))) (lv' := [(3, .int (x3 + (-1))), (0, .ref q_this), (1, .ref q_p1), (2, .ref q_p2)]) hx hb dX10_seek_137 hl (k := 3) rfl (by rfl) (by decide) rfl (fun ls hl => ?_)
          refine lv_goto (tgt := 55) hx hb dX10_seek_140 (by decide) ?_
          exact ih55 (x3 + (-1)) v_this_many v_this_best f_this_bestFill f_this_seen f_this_whole u3 _ _ _ hP hD hS (lv_sub hl [1, 2, 3, 0] rfl) hf
        · replace hf := hf.1 c2
          refine lv_aload_n hx hb dX10_seek_113 rfl (lv_at hl 0 rfl) ?_
          refine lv_aload_n hx hb dX10_seek_114 rfl (lv_at hl 1 rfl) ?_
          refine lv_aload_n hx hb dX10_seek_115 rfl (lv_at hl 2 rfl) ?_
          refine va_get (D := (dC, dI)) (ci := 4) (v := .int v_p2_places) (C := RX4) (T := TX4) (N := 2) hx hb hts inX4 hown hK hP 13 rfl rfl 1 (by decide) lk10 (fun _ h9 => h9) rfl dX10_seek_116 ?_
          refine z_Vv (n := 2) (As := [.ref q_p1, .int v_p2_places]) (rest := []) ⟨hx, hb, hml, hown, hts⟩ (c_X10_note l dC dI cI cC cS q_this q_this_bestFill q_this_seen q_this_whole q_this_fill q_p1 q_p1_weights q_this_holes q_p1_kinds q_p1_sets q_p1_stocks q_p1_readers q_p1_eighths q_p1_wishes _ v_this_known v_this_blanks v_this_many v_this_best f_this_bestFill f_this_seen f_this_whole f_this_fill v_p1_words v_p1_roads f_p1_weights v_p2_places N _  hf) gX10_seek_X10_note rfl rfl rfl (by decide +kernel) ⟨Nat.le_of_ble_eq_true rfl, Nat.le_of_ble_eq_true rfl⟩ hK hP hD hS hA 0 9 rfl rfl rfl hl.1 rfl (Nat.le_of_ble_eq_true rfl) dX10_seek_119 ⟨Nat.zero_le _, Nat.zero_le _⟩ [0, 1, 2, 3, 5, 6, 9] [4, 7, 8, 10, 11, 12, 13, 14] (([(q_this_holes, .inl (cI, 4, .inl f_this_holes)), (q_p1_kinds, .inl (cI, 6, .inl f_p1_kinds)), (q_p1_sets, .inl (cI, 6, .inl f_p1_sets)), (q_p1_readers, .inl (cI, 6, .inl f_p1_readers)), (q_p1_eighths, .inl (cI, 6, .inl f_p1_eighths)), (q_p1_wishes, .inl (cI, 6, .inl f_p1_wishes)), (q_p2, .inr (4, [.ref q_p2_has, .int v_p2_places])), (q_p2_has, .inl (cI, 12, .inl f_p2_has))] : va_W)) rfl rfl (by decide) (by decide) (by decide) (fun u => (zW_X10_seek cI cC cS q_this q_this_bestFill q_this_seen q_this_whole q_this_holes q_this_fill q_p1 q_p1_kinds q_p1_sets q_p1_weights q_p1_readers q_p1_eighths q_p1_wishes q_p2 q_p2_has q_p1_stocks v_this_known v_this_blanks u.1 u.2.1 u.2.2.1 u.2.2.2 f_this_whole f_this_holes f_this_fill v_p1_words v_p1_roads f_p1_kinds f_p1_sets f_p1_weights f_p1_readers f_p1_eighths f_p1_wishes v_p2_places f_p2_has)) [8, 9, 10, 11, 0, 12, 13, 1, 2, 14, 3, 4, 5, 6, 7] (fun u => rfl) (by decide) (fun u4 H locs hf hP hD hS => ?_)
          have hP : va_P (dC, dI) vwCl (zW_X10_seek cI cC cS q_this q_this_bestFill q_this_seen q_this_whole q_this_holes q_this_fill q_p1 q_p1_kinds q_p1_sets q_p1_weights q_p1_readers q_p1_eighths q_p1_wishes q_p2 q_p2_has q_p1_stocks v_this_known v_this_blanks u4.1 u4.2.1 u4.2.2.1 u4.2.2.2 f_this_whole f_this_holes f_this_fill v_p1_words v_p1_roads f_p1_kinds f_p1_sets f_p1_weights f_p1_readers f_p1_eighths f_p1_wishes v_p2_places f_p2_has) H := hP
          have hD : va_D A (zW_X10_seek cI cC cS q_this q_this_bestFill q_this_seen q_this_whole q_this_holes q_this_fill q_p1 q_p1_kinds q_p1_sets q_p1_weights q_p1_readers q_p1_eighths q_p1_wishes q_p2 q_p2_has q_p1_stocks v_this_known v_this_blanks u4.1 u4.2.1 u4.2.2.1 u4.2.2.2 f_this_whole f_this_holes f_this_fill v_p1_words v_p1_roads f_p1_kinds f_p1_sets f_p1_weights f_p1_readers f_p1_eighths f_p1_wishes v_p2_places f_p2_has) := hD
          refine lv_aload_n hx hb dX10_seek_122 rfl (lv_at hl 0 rfl) ?_
          refine va_get (D := (dC, dI)) (ci := 9) (v := .ref q_this_fill) (C := RX10) (T := TX10) (N := 9) hx hb hts inX10 hown hK hP 0 rfl rfl 8 (by decide) lk5 (fun _ h9 => h9) rfl dX10_seek_123 ?_
          refine lv_aload_n hx hb dX10_seek_126 rfl (lv_at hl 0 rfl) ?_
          refine va_get (D := (dC, dI)) (ci := 9) (v := .int v_this_blanks) (C := RX10) (T := TX10) (N := 9) hx hb hts inX10 hown hK hP 0 rfl rfl 1 (by decide) lk6 (fun _ h9 => h9) rfl dX10_seek_127 ?_
          refine lv_aload_n hx hb dX10_seek_130 rfl (lv_at hl 1 rfl) ?_
          refine va_get (D := (dC, dI)) (ci := 7) (v := .int v_p1_words) (C := RX8) (T := TX8) (N := 9) hx hb hts inX8 hown hK hP 6 rfl rfl 4 (by decide) lk7 (fun _ h9 => h9) rfl dX10_seek_131 ?_
          refine z_Sv (n := 3) (As := [.ref q_this_fill, .int v_this_blanks, .int v_p1_words]) (rest := []) ⟨hx, hb, hml, hown, hts⟩ (c_X5_step l dC dI cI cC cS q_this_fill _ 4 f_this_fill v_this_blanks v_p1_words N _  hf) gX10_seek_X5_step rfl rfl rfl (by decide +kernel) ⟨Nat.le_of_ble_eq_true rfl, Nat.le_of_ble_eq_true rfl⟩ hK hP hD hS hA rfl hl.1 rfl (Nat.le_of_ble_eq_true rfl) dX10_seek_134 ⟨Nat.zero_le _, Nat.zero_le _⟩ [5] [0, 1, 2, 3, 4, 6, 7, 8, 9, 10, 11, 12, 13, 14] (([(q_this, .inr (9, [.int v_this_known, .int v_this_blanks, .int u4.1, .int u4.2.1, .ref q_this_bestFill, .ref q_this_seen, .ref q_this_whole, .ref q_this_holes, .ref q_this_fill])), (q_this_bestFill, .inl (cI, 4, .inl u4.2.2.1)), (q_this_seen, .inl (cI, 12, .inl u4.2.2.2)), (q_this_whole, .inl (cI, 12, .inl f_this_whole)), (q_this_holes, .inl (cI, 4, .inl f_this_holes)), (q_p1, .inr (7, [.ref q_p1_kinds, .ref q_p1_sets, .ref q_p1_weights, .ref q_p1_stocks, .int v_p1_words, .ref q_p1_readers, .ref q_p1_eighths, .ref q_p1_wishes, .int v_p1_roads])), (q_p1_kinds, .inl (cI, 6, .inl f_p1_kinds)), (q_p1_sets, .inl (cI, 6, .inl f_p1_sets)), (q_p1_weights, .inl (cI, 6, .inl f_p1_weights)), (q_p1_readers, .inl (cI, 6, .inl f_p1_readers)), (q_p1_eighths, .inl (cI, 6, .inl f_p1_eighths)), (q_p1_wishes, .inl (cI, 6, .inl f_p1_wishes)), (q_p2, .inr (4, [.ref q_p2_has, .int v_p2_places])), (q_p2_has, .inl (cI, 12, .inl f_p2_has))] : va_W)) rfl rfl (by decide) (by decide) (by decide) (fun u => (zW_X10_seek cI cC cS q_this q_this_bestFill q_this_seen q_this_whole q_this_holes q_this_fill q_p1 q_p1_kinds q_p1_sets q_p1_weights q_p1_readers q_p1_eighths q_p1_wishes q_p2 q_p2_has q_p1_stocks v_this_known v_this_blanks u4.1 u4.2.1 u4.2.2.1 u4.2.2.2 f_this_whole f_this_holes u v_p1_words v_p1_roads f_p1_kinds f_p1_sets f_p1_weights f_p1_readers f_p1_eighths f_p1_wishes v_p2_places f_p2_has)) [0, 1, 2, 3, 4, 14, 5, 6, 7, 8, 9, 10, 11, 12, 13] (fun u => rfl) (by decide) (fun u5 H locs hf hP hD hS => ?_)
          have hP : va_P (dC, dI) vwCl (zW_X10_seek cI cC cS q_this q_this_bestFill q_this_seen q_this_whole q_this_holes q_this_fill q_p1 q_p1_kinds q_p1_sets q_p1_weights q_p1_readers q_p1_eighths q_p1_wishes q_p2 q_p2_has q_p1_stocks v_this_known v_this_blanks u4.1 u4.2.1 u4.2.2.1 u4.2.2.2 f_this_whole f_this_holes u5 v_p1_words v_p1_roads f_p1_kinds f_p1_sets f_p1_weights f_p1_readers f_p1_eighths f_p1_wishes v_p2_places f_p2_has) H := hP
          have hD : va_D A (zW_X10_seek cI cC cS q_this q_this_bestFill q_this_seen q_this_whole q_this_holes q_this_fill q_p1 q_p1_kinds q_p1_sets q_p1_weights q_p1_readers q_p1_eighths q_p1_wishes q_p2 q_p2_has q_p1_stocks v_this_known v_this_blanks u4.1 u4.2.1 u4.2.2.1 u4.2.2.2 f_this_whole f_this_holes u5 v_p1_words v_p1_roads f_p1_kinds f_p1_sets f_p1_weights f_p1_readers f_p1_eighths f_p1_wishes v_p2_places f_p2_has) := hD
          refine lv_iinc (v := (x3 + (-1))) (lv' := [(3, .int (x3 + (-1))), (0, .ref q_this), (1, .ref q_p1), (2, .ref q_p2)]) hx hb dX10_seek_137 hl (k := 3) rfl (by rfl) (by decide) rfl (fun ls hl => ?_)
          refine lv_goto (tgt := 55) hx hb dX10_seek_140 (by decide) ?_
          exact ih55 (x3 + (-1)) u4.1 u4.2.1 u4.2.2.1 u4.2.2.2 f_this_whole u5 _ _ _ hP hD hS (lv_sub hl [1, 2, 3, 0] rfl) hf
      have L62 : ∀ (x3 : Int32) (v_this_many : Int32) (v_this_best : Int32) (f_this_bestFill : Nat → Int32) (f_this_seen : Nat → Int32) (f_this_fill : Nat → Int32), ∀ (n62 : Nat) (x4 : Int32) (f_this_whole : Nat → Int32), ∀ (H : Heap) (locs : List Loc) (ls : Array Slot), va_P (dC, dI) vwCl (zW_X10_seek cI cC cS q_this q_this_bestFill q_this_seen q_this_whole q_this_holes q_this_fill q_p1 q_p1_kinds q_p1_sets q_p1_weights q_p1_readers q_p1_eighths q_p1_wishes q_p2 q_p2_has q_p1_stocks v_this_known v_this_blanks v_this_many v_this_best f_this_bestFill f_this_seen f_this_whole f_this_holes f_this_fill v_p1_words v_p1_roads f_p1_kinds f_p1_sets f_p1_weights f_p1_readers f_p1_eighths f_p1_wishes v_p2_places f_p2_has) H → va_D A (zW_X10_seek cI cC cS q_this q_this_bestFill q_this_seen q_this_whole q_this_holes q_this_fill q_p1 q_p1_kinds q_p1_sets q_p1_weights q_p1_readers q_p1_eighths q_p1_wishes q_p2 q_p2_has q_p1_stocks v_this_known v_this_blanks v_this_many v_this_best f_this_bestFill f_this_seen f_this_whole f_this_holes f_this_fill v_p1_words v_p1_roads f_p1_kinds f_p1_sets f_p1_weights f_p1_readers f_p1_eighths f_p1_wishes v_p2_places f_p2_has) → va_S A s.heap H locs → lv_has ls 5 [(0, .ref q_this), (1, .ref q_p1), (2, .ref q_p2), (3, .int x3), (4, .int x4)] → lp_X10_seek_62 N v_this_blanks f_this_holes f_this_fill Φ (fun f_this_wholeh62 => ex_X10_seek_96 N x3 v_this_known v_this_blanks v_this_many v_this_best f_this_bestFill f_this_seen f_this_wholeh62 f_this_holes f_this_fill v_p1_words v_p1_roads f_p1_kinds f_p1_sets f_p1_weights f_p1_readers f_p1_eighths f_p1_wishes v_p2_places Φ (lp_X10_seek_55 N v_this_known v_this_blanks f_this_holes v_p1_words v_p1_roads f_p1_kinds f_p1_sets f_p1_weights f_p1_readers f_p1_eighths f_p1_wishes v_p2_places Φ n55)) n62 x4 f_this_whole → W p l e (headSpec wsX10_seek zr_X10_seek).room s m ([.ref q_this, .ref q_p1, .ref q_p2] : List Value).toArray below meth c H locs 0 0 (MQ below (zQv (dC, dI) (zT cI cC cS) A (fun (u : (Int32) × (Int32) × (Int32) × (Int32) × (Nat → Int32) × (Nat → Int32) × (Nat → Int32) × (Nat → Int32) × (Nat → Int32)) => Φ u.1 u.2.1 u.2.2.1 u.2.2.2.1 u.2.2.2.2.1 u.2.2.2.2.2.1 u.2.2.2.2.2.2.1 u.2.2.2.2.2.2.2.1 u.2.2.2.2.2.2.2.2) (fun u => (zW_X10_seek cI cC cS q_this q_this_bestFill q_this_seen q_this_whole q_this_holes q_this_fill q_p1 q_p1_kinds q_p1_sets q_p1_weights q_p1_readers q_p1_eighths q_p1_wishes q_p2 q_p2_has q_p1_stocks u.1 u.2.1 u.2.2.1 u.2.2.2.1 u.2.2.2.2.1 u.2.2.2.2.2.1 u.2.2.2.2.2.2.1 u.2.2.2.2.2.2.2.1 u.2.2.2.2.2.2.2.2 v_p1_words v_p1_roads f_p1_kinds f_p1_sets f_p1_weights f_p1_readers f_p1_eighths f_p1_wishes v_p2_places f_p2_has))) ([.ref q_this, .ref q_p1, .ref q_p2] : List Value).toArray s 0 0 A) (F0 m 62 ls []) := by
        intro x3 v_this_many v_this_best f_this_bestFill f_this_seen f_this_fill
        intro n62
        induction n62 with
        | zero =>
          intro x4 f_this_whole H locs ls hP hD hS hl hf
          exact absurd hf (by rw [lp_X10_seek_62]; exact id)
        | succ n62 ih62 =>
          intro x4 f_this_whole H locs ls hP hD hS hl hf
          rw [lp_X10_seek_62] at hf
          refine lv_iload hx hb dX10_seek_62 (lv_at hl 4 rfl) ?_
          refine lv_aload_n hx hb dX10_seek_64 rfl (lv_at hl 0 rfl) ?_
          refine va_get (D := (dC, dI)) (ci := 9) (v := .int v_this_blanks) (C := RX10) (T := TX10) (N := 9) hx hb hts inX10 hown hK hP 0 rfl rfl 1 (by decide) lk6 (fun _ h9 => h9) rfl dX10_seek_65 ?_
          refine lv_icmp_ge (tgt := 96) hx hb dX10_seek_68 (by decide) (fun c6 => ?_) (fun c6 => ?_)
          · replace hf := hf.1 c6
            exact E96 x3 v_this_many v_this_best f_this_bestFill f_this_seen f_this_whole f_this_fill _ _ _ hP hD hS (lv_sub hl [0, 1, 2, 3] rfl) hf
          · replace hf := hf.2 c6
            refine lv_aload_n hx hb dX10_seek_71 rfl (lv_at hl 0 rfl) ?_
            refine va_get (D := (dC, dI)) (ci := 9) (v := .ref q_this_whole) (C := RX10) (T := TX10) (N := 9) hx hb hts inX10 hown hK hP 0 rfl rfl 6 (by decide) lk8 (fun _ h9 => h9) rfl dX10_seek_72 ?_
            refine lv_aload_n hx hb dX10_seek_75 rfl (lv_at hl 0 rfl) ?_
            refine va_get (D := (dC, dI)) (ci := 9) (v := .ref q_this_holes) (C := RX10) (T := TX10) (N := 9) hx hb hts inX10 hown hK hP 0 rfl rfl 7 (by decide) lk9 (fun _ h9 => h9) rfl dX10_seek_76 ?_
            refine lv_iload hx hb dX10_seek_79 (lv_at hl 4 rfl) ?_
            refine va_iald hx hb hK hP 4 0 rfl rfl hf.1 dX10_seek_81 ?_
            replace hf := hf.2
            refine lv_aload_n hx hb dX10_seek_82 rfl (lv_at hl 0 rfl) ?_
            refine va_get (D := (dC, dI)) (ci := 9) (v := .ref q_this_fill) (C := RX10) (T := TX10) (N := 9) hx hb hts inX10 hown hK hP 0 rfl rfl 8 (by decide) lk5 (fun _ h9 => h9) rfl dX10_seek_83 ?_
            refine lv_iload hx hb dX10_seek_86 (lv_at hl 4 rfl) ?_
            refine va_iald hx hb hK hP 5 0 rfl rfl hf.1 dX10_seek_88 ?_
            replace hf := hf.2
            refine va_iast hx hb hK hP hD hS 3 0 rfl rfl hf.1 dX10_seek_89 (fun H locs hP hD hS => ?_)
            replace hf := hf.2
            have hP : va_P (dC, dI) vwCl (zW_X10_seek cI cC cS q_this q_this_bestFill q_this_seen q_this_whole q_this_holes q_this_fill q_p1 q_p1_kinds q_p1_sets q_p1_weights q_p1_readers q_p1_eighths q_p1_wishes q_p2 q_p2_has q_p1_stocks v_this_known v_this_blanks v_this_many v_this_best f_this_bestFill f_this_seen (upd f_this_whole (Int32.toNatClampNeg (f_this_holes (Int32.toNatClampNeg x4))) (f_this_fill (Int32.toNatClampNeg x4))) f_this_holes f_this_fill v_p1_words v_p1_roads f_p1_kinds f_p1_sets f_p1_weights f_p1_readers f_p1_eighths f_p1_wishes v_p2_places f_p2_has) H := hP
            have hD : va_D A (zW_X10_seek cI cC cS q_this q_this_bestFill q_this_seen q_this_whole q_this_holes q_this_fill q_p1 q_p1_kinds q_p1_sets q_p1_weights q_p1_readers q_p1_eighths q_p1_wishes q_p2 q_p2_has q_p1_stocks v_this_known v_this_blanks v_this_many v_this_best f_this_bestFill f_this_seen (upd f_this_whole (Int32.toNatClampNeg (f_this_holes (Int32.toNatClampNeg x4))) (f_this_fill (Int32.toNatClampNeg x4))) f_this_holes f_this_fill v_p1_words v_p1_roads f_p1_kinds f_p1_sets f_p1_weights f_p1_readers f_p1_eighths f_p1_wishes v_p2_places f_p2_has) := hD
            refine lv_iinc (v := (x4 + 1)) (lv' := [(4, .int (x4 + 1)), (0, .ref q_this), (1, .ref q_p1), (2, .ref q_p2), (3, .int x3)]) hx hb dX10_seek_90 hl (k := 4) rfl (by rfl) (by decide) rfl (fun ls hl => ?_)
            refine lv_goto (tgt := 62) hx hb dX10_seek_93 (by decide) ?_
            exact ih62 (x4 + 1) (upd f_this_whole (Int32.toNatClampNeg (f_this_holes (Int32.toNatClampNeg x4))) (f_this_fill (Int32.toNatClampNeg x4))) _ _ _ hP hD hS (lv_sub hl [1, 2, 3, 4, 0] rfl) hf
      intro x3 v_this_many v_this_best f_this_bestFill f_this_seen f_this_whole f_this_fill H locs ls hP hD hS hl hf
      rw [lp_X10_seek_55] at hf
      refine lv_iload_n hx hb dX10_seek_55 rfl (lv_at hl 3 rfl) ?_
      refine lv_if_le (tgt := 143) hx hb dX10_seek_56 (by decide) (fun c7 => ?_) (fun c7 => ?_)
      · replace hf := hf.1 c7
        refine lv_aload_n hx hb dX10_seek_143 rfl (lv_at hl 0 rfl) ?_
        refine lv_iconst (v := 1) hx hb dX10_seek_144 (by decide) ?_
        refine va_put (D := (dC, dI)) (ci := 9) (v := .int 1) (ty := .boolean) (C := RX10) (T := TX10) (N := 9) hx hb hts inX10 tyX10 tyX10_ok nmX10 hown hK hP hD hS 0 rfl rfl 0 (by decide) lk1 (fun _ h9 => h9) rfl (by decide +kernel) rfl rfl (Nat.le_of_ble_eq_true rfl) dX10_seek_145 (fun H locs hP hD hS => ?_)
        have hP : va_P (dC, dI) vwCl (zW_X10_seek cI cC cS q_this q_this_bestFill q_this_seen q_this_whole q_this_holes q_this_fill q_p1 q_p1_kinds q_p1_sets q_p1_weights q_p1_readers q_p1_eighths q_p1_wishes q_p2 q_p2_has q_p1_stocks 1 v_this_blanks v_this_many v_this_best f_this_bestFill f_this_seen f_this_whole f_this_holes f_this_fill v_p1_words v_p1_roads f_p1_kinds f_p1_sets f_p1_weights f_p1_readers f_p1_eighths f_p1_wishes v_p2_places f_p2_has) H := hP
        have hD : va_D A (zW_X10_seek cI cC cS q_this q_this_bestFill q_this_seen q_this_whole q_this_holes q_this_fill q_p1 q_p1_kinds q_p1_sets q_p1_weights q_p1_readers q_p1_eighths q_p1_wishes q_p2 q_p2_has q_p1_stocks 1 v_this_blanks v_this_many v_this_best f_this_bestFill f_this_seen f_this_whole f_this_holes f_this_fill v_p1_words v_p1_roads f_p1_kinds f_p1_sets f_p1_weights f_p1_readers f_p1_eighths f_p1_wishes v_p2_places f_p2_has) := hD
        exact z_vret hx hb hr hlocks (1, v_this_blanks, v_this_many, v_this_best, f_this_bestFill, f_this_seen, f_this_whole, f_this_holes, f_this_fill) hf hK hP hD hS dX10_seek_148
      · replace hf := hf.2 c7
        refine lv_iconst (v := 0) hx hb dX10_seek_59 (by decide) ?_
        refine lv_istore (lv' := [(4, .int 0), (0, .ref q_this), (1, .ref q_p1), (2, .ref q_p2), (3, .int x3)]) hx hb dX10_seek_60 hl (by decide) rfl (fun ls hl => ?_)
        exact L62 x3 v_this_many v_this_best f_this_bestFill f_this_seen f_this_fill N 0 f_this_whole _ _ _ hP hD hS (lv_sub hl [1, 2, 3, 4, 0] rfl) hf
  unfold wp_X10_seek at hf
  refine lv_aload_n hx hb dX10_seek_0 rfl (lv_at hl 0 rfl) ?_
  refine va_get (D := (dC, dI)) (ci := 9) (v := .int v_this_known) (C := RX10) (T := TX10) (N := 9) hx hb hts inX10 hown hK hP 0 rfl rfl 0 (by decide) lk1 (fun _ h9 => h9) rfl dX10_seek_1 ?_
  refine lv_if_eq (tgt := 8) hx hb dX10_seek_4 (by decide) (fun c1 => ?_) (fun c1 => ?_)
  · replace hf := hf.1 c1
    refine lv_aload_n hx hb dX10_seek_8 rfl (lv_at hl 0 rfl) ?_
    refine lv_iconst (v := 0) hx hb dX10_seek_9 (by decide) ?_
    refine va_put (D := (dC, dI)) (ci := 9) (v := .int 0) (ty := .int) (C := RX10) (T := TX10) (N := 9) hx hb hts inX10 tyX10 tyX10_ok nmX10 hown hK hP hD hS 0 rfl rfl 2 (by decide) lk2 (fun _ h9 => h9) rfl (by decide +kernel) rfl rfl (Nat.le_of_ble_eq_true rfl) dX10_seek_10 (fun H locs hP hD hS => ?_)
    have hP : va_P (dC, dI) vwCl (zW_X10_seek cI cC cS q_this q_this_bestFill q_this_seen q_this_whole q_this_holes q_this_fill q_p1 q_p1_kinds q_p1_sets q_p1_weights q_p1_readers q_p1_eighths q_p1_wishes q_p2 q_p2_has q_p1_stocks v_this_known v_this_blanks 0 v_this_best f_this_bestFill f_this_seen f_this_whole f_this_holes f_this_fill v_p1_words v_p1_roads f_p1_kinds f_p1_sets f_p1_weights f_p1_readers f_p1_eighths f_p1_wishes v_p2_places f_p2_has) H := hP
    have hD : va_D A (zW_X10_seek cI cC cS q_this q_this_bestFill q_this_seen q_this_whole q_this_holes q_this_fill q_p1 q_p1_kinds q_p1_sets q_p1_weights q_p1_readers q_p1_eighths q_p1_wishes q_p2 q_p2_has q_p1_stocks v_this_known v_this_blanks 0 v_this_best f_this_bestFill f_this_seen f_this_whole f_this_holes f_this_fill v_p1_words v_p1_roads f_p1_kinds f_p1_sets f_p1_weights f_p1_readers f_p1_eighths f_p1_wishes v_p2_places f_p2_has) := hD
    refine lv_aload_n hx hb dX10_seek_13 rfl (lv_at hl 0 rfl) ?_
    refine lv_bipush (v := (-9)) hx hb dX10_seek_14 (by decide) ?_
    refine va_put (D := (dC, dI)) (ci := 9) (v := .int (-9)) (ty := .int) (C := RX10) (T := TX10) (N := 9) hx hb hts inX10 tyX10 tyX10_ok nmX10 hown hK hP hD hS 0 rfl rfl 3 (by decide) lk3 (fun _ h9 => h9) rfl (by decide +kernel) rfl rfl (Nat.le_of_ble_eq_true rfl) dX10_seek_16 (fun H locs hP hD hS => ?_)
    have hP : va_P (dC, dI) vwCl (zW_X10_seek cI cC cS q_this q_this_bestFill q_this_seen q_this_whole q_this_holes q_this_fill q_p1 q_p1_kinds q_p1_sets q_p1_weights q_p1_readers q_p1_eighths q_p1_wishes q_p2 q_p2_has q_p1_stocks v_this_known v_this_blanks 0 (-9) f_this_bestFill f_this_seen f_this_whole f_this_holes f_this_fill v_p1_words v_p1_roads f_p1_kinds f_p1_sets f_p1_weights f_p1_readers f_p1_eighths f_p1_wishes v_p2_places f_p2_has) H := hP
    have hD : va_D A (zW_X10_seek cI cC cS q_this q_this_bestFill q_this_seen q_this_whole q_this_holes q_this_fill q_p1 q_p1_kinds q_p1_sets q_p1_weights q_p1_readers q_p1_eighths q_p1_wishes q_p2 q_p2_has q_p1_stocks v_this_known v_this_blanks 0 (-9) f_this_bestFill f_this_seen f_this_whole f_this_holes f_this_fill v_p1_words v_p1_roads f_p1_kinds f_p1_sets f_p1_weights f_p1_readers f_p1_eighths f_p1_wishes v_p2_places f_p2_has) := hD
    refine lv_aload_n hx hb dX10_seek_19 rfl (lv_at hl 0 rfl) ?_
    refine va_get (D := (dC, dI)) (ci := 9) (v := .ref q_this_seen) (C := RX10) (T := TX10) (N := 9) hx hb hts inX10 hown hK hP 0 rfl rfl 5 (by decide) lk4 (fun _ h9 => h9) rfl dX10_seek_20 ?_
    refine lv_iconst (v := 0) hx hb dX10_seek_23 (by decide) ?_
    refine z_Sv (n := 2) (As := [.ref q_this_seen, .int 0]) (rest := []) ⟨hx, hb, hml, hown, hts⟩ (c_J7_fill_53178 l dC dI cI cC cS q_this_seen _ 12 f_this_seen 0 N _  hf) gX10_seek_J7_fill_53178 rfl rfl rfl (by decide +kernel) ⟨Nat.le_of_ble_eq_true rfl, Nat.le_of_ble_eq_true rfl⟩ hK hP hD hS hA rfl hl.1 rfl (Nat.le_of_ble_eq_true rfl) dX10_seek_24 ⟨Nat.zero_le _, Nat.zero_le _⟩ [2] [0, 1, 3, 4, 5, 6, 7, 8, 9, 10, 11, 12, 13, 14] (([(q_this, .inr (9, [.int v_this_known, .int v_this_blanks, .int 0, .int (-9), .ref q_this_bestFill, .ref q_this_seen, .ref q_this_whole, .ref q_this_holes, .ref q_this_fill])), (q_this_bestFill, .inl (cI, 4, .inl f_this_bestFill)), (q_this_whole, .inl (cI, 12, .inl f_this_whole)), (q_this_holes, .inl (cI, 4, .inl f_this_holes)), (q_this_fill, .inl (cI, 4, .inl f_this_fill)), (q_p1, .inr (7, [.ref q_p1_kinds, .ref q_p1_sets, .ref q_p1_weights, .ref q_p1_stocks, .int v_p1_words, .ref q_p1_readers, .ref q_p1_eighths, .ref q_p1_wishes, .int v_p1_roads])), (q_p1_kinds, .inl (cI, 6, .inl f_p1_kinds)), (q_p1_sets, .inl (cI, 6, .inl f_p1_sets)), (q_p1_weights, .inl (cI, 6, .inl f_p1_weights)), (q_p1_readers, .inl (cI, 6, .inl f_p1_readers)), (q_p1_eighths, .inl (cI, 6, .inl f_p1_eighths)), (q_p1_wishes, .inl (cI, 6, .inl f_p1_wishes)), (q_p2, .inr (4, [.ref q_p2_has, .int v_p2_places])), (q_p2_has, .inl (cI, 12, .inl f_p2_has))] : va_W)) rfl rfl (by decide) (by decide) (by decide) (fun u => (zW_X10_seek cI cC cS q_this q_this_bestFill q_this_seen q_this_whole q_this_holes q_this_fill q_p1 q_p1_kinds q_p1_sets q_p1_weights q_p1_readers q_p1_eighths q_p1_wishes q_p2 q_p2_has q_p1_stocks v_this_known v_this_blanks 0 (-9) f_this_bestFill u f_this_whole f_this_holes f_this_fill v_p1_words v_p1_roads f_p1_kinds f_p1_sets f_p1_weights f_p1_readers f_p1_eighths f_p1_wishes v_p2_places f_p2_has)) [0, 1, 14, 2, 3, 4, 5, 6, 7, 8, 9, 10, 11, 12, 13] (fun u => rfl) (by decide) (fun u2 H locs hf hP hD hS => ?_)
    have hP : va_P (dC, dI) vwCl (zW_X10_seek cI cC cS q_this q_this_bestFill q_this_seen q_this_whole q_this_holes q_this_fill q_p1 q_p1_kinds q_p1_sets q_p1_weights q_p1_readers q_p1_eighths q_p1_wishes q_p2 q_p2_has q_p1_stocks v_this_known v_this_blanks 0 (-9) f_this_bestFill u2 f_this_whole f_this_holes f_this_fill v_p1_words v_p1_roads f_p1_kinds f_p1_sets f_p1_weights f_p1_readers f_p1_eighths f_p1_wishes v_p2_places f_p2_has) H := hP
    have hD : va_D A (zW_X10_seek cI cC cS q_this q_this_bestFill q_this_seen q_this_whole q_this_holes q_this_fill q_p1 q_p1_kinds q_p1_sets q_p1_weights q_p1_readers q_p1_eighths q_p1_wishes q_p2 q_p2_has q_p1_stocks v_this_known v_this_blanks 0 (-9) f_this_bestFill u2 f_this_whole f_this_holes f_this_fill v_p1_words v_p1_roads f_p1_kinds f_p1_sets f_p1_weights f_p1_readers f_p1_eighths f_p1_wishes v_p2_places f_p2_has) := hD
    refine lv_aload_n hx hb dX10_seek_27 rfl (lv_at hl 0 rfl) ?_
    refine lv_aload_n hx hb dX10_seek_28 rfl (lv_at hl 2 rfl) ?_
    refine z_Vv (n := 1) (As := [.ref q_p2]) (rest := []) ⟨hx, hb, hml, hown, hts⟩ (c_X10_findHoles l dC dI cI cC cS q_this q_this_whole q_this_holes q_p2 q_p2_has q_this_bestFill q_this_seen q_this_fill _ v_this_known v_this_blanks 0 (-9) f_this_whole f_this_holes v_p2_places f_p2_has  N _  hf) gX10_seek_X10_findHoles rfl rfl rfl (by decide +kernel) ⟨Nat.le_of_ble_eq_true rfl, Nat.le_of_ble_eq_true rfl⟩ hK hP hD hS hA 0 9 rfl rfl rfl hl.1 rfl (Nat.le_of_ble_eq_true rfl) dX10_seek_29 ⟨Nat.zero_le _, Nat.zero_le _⟩ [0, 3, 4, 13, 14] [1, 2, 5, 6, 7, 8, 9, 10, 11, 12] (([(q_this_bestFill, .inl (cI, 4, .inl f_this_bestFill)), (q_this_seen, .inl (cI, 12, .inl u2)), (q_this_fill, .inl (cI, 4, .inl f_this_fill)), (q_p1, .inr (7, [.ref q_p1_kinds, .ref q_p1_sets, .ref q_p1_weights, .ref q_p1_stocks, .int v_p1_words, .ref q_p1_readers, .ref q_p1_eighths, .ref q_p1_wishes, .int v_p1_roads])), (q_p1_kinds, .inl (cI, 6, .inl f_p1_kinds)), (q_p1_sets, .inl (cI, 6, .inl f_p1_sets)), (q_p1_weights, .inl (cI, 6, .inl f_p1_weights)), (q_p1_readers, .inl (cI, 6, .inl f_p1_readers)), (q_p1_eighths, .inl (cI, 6, .inl f_p1_eighths)), (q_p1_wishes, .inl (cI, 6, .inl f_p1_wishes))] : va_W)) rfl rfl (by decide) (by decide) (by decide) (fun u => (zW_X10_seek cI cC cS q_this q_this_bestFill q_this_seen q_this_whole q_this_holes q_this_fill q_p1 q_p1_kinds q_p1_sets q_p1_weights q_p1_readers q_p1_eighths q_p1_wishes q_p2 q_p2_has q_p1_stocks v_this_known u.1 0 (-9) f_this_bestFill u2 u.2.1 u.2.2 f_this_fill v_p1_words v_p1_roads f_p1_kinds f_p1_sets f_p1_weights f_p1_readers f_p1_eighths f_p1_wishes v_p2_places f_p2_has)) [10, 0, 1, 11, 12, 2, 3, 4, 5, 6, 7, 8, 9, 13, 14] (fun u => rfl) (by decide) (fun u3 H locs hf hP hD hS => ?_)
    have hP : va_P (dC, dI) vwCl (zW_X10_seek cI cC cS q_this q_this_bestFill q_this_seen q_this_whole q_this_holes q_this_fill q_p1 q_p1_kinds q_p1_sets q_p1_weights q_p1_readers q_p1_eighths q_p1_wishes q_p2 q_p2_has q_p1_stocks v_this_known u3.1 0 (-9) f_this_bestFill u2 u3.2.1 u3.2.2 f_this_fill v_p1_words v_p1_roads f_p1_kinds f_p1_sets f_p1_weights f_p1_readers f_p1_eighths f_p1_wishes v_p2_places f_p2_has) H := hP
    have hD : va_D A (zW_X10_seek cI cC cS q_this q_this_bestFill q_this_seen q_this_whole q_this_holes q_this_fill q_p1 q_p1_kinds q_p1_sets q_p1_weights q_p1_readers q_p1_eighths q_p1_wishes q_p2 q_p2_has q_p1_stocks v_this_known u3.1 0 (-9) f_this_bestFill u2 u3.2.1 u3.2.2 f_this_fill v_p1_words v_p1_roads f_p1_kinds f_p1_sets f_p1_weights f_p1_readers f_p1_eighths f_p1_wishes v_p2_places f_p2_has) := hD
    refine lv_aload_n hx hb dX10_seek_32 rfl (lv_at hl 0 rfl) ?_
    refine va_get (D := (dC, dI)) (ci := 9) (v := .ref q_this_fill) (C := RX10) (T := TX10) (N := 9) hx hb hts inX10 hown hK hP 0 rfl rfl 8 (by decide) lk5 (fun _ h9 => h9) rfl dX10_seek_33 ?_
    refine lv_aload_n hx hb dX10_seek_36 rfl (lv_at hl 0 rfl) ?_
    refine va_get (D := (dC, dI)) (ci := 9) (v := .int u3.1) (C := RX10) (T := TX10) (N := 9) hx hb hts inX10 hown hK hP 0 rfl rfl 1 (by decide) lk6 (fun _ h9 => h9) rfl dX10_seek_37 ?_
    refine z_Sv (n := 2) (As := [.ref q_this_fill, .int u3.1]) (rest := []) ⟨hx, hb, hml, hown, hts⟩ (c_X5_begin l dC dI cI cC cS q_this_fill _ 4 f_this_fill u3.1 N _  hf) gX10_seek_X5_begin rfl rfl rfl (by decide +kernel) ⟨Nat.le_of_ble_eq_true rfl, Nat.le_of_ble_eq_true rfl⟩ hK hP hD hS hA rfl hl.1 rfl (Nat.le_of_ble_eq_true rfl) dX10_seek_40 ⟨Nat.zero_le _, Nat.zero_le _⟩ [5] [0, 1, 2, 3, 4, 6, 7, 8, 9, 10, 11, 12, 13, 14] (([(q_this, .inr (9, [.int v_this_known, .int u3.1, .int 0, .int (-9), .ref q_this_bestFill, .ref q_this_seen, .ref q_this_whole, .ref q_this_holes, .ref q_this_fill])), (q_this_bestFill, .inl (cI, 4, .inl f_this_bestFill)), (q_this_seen, .inl (cI, 12, .inl u2)), (q_this_whole, .inl (cI, 12, .inl u3.2.1)), (q_this_holes, .inl (cI, 4, .inl u3.2.2)), (q_p1, .inr (7, [.ref q_p1_kinds, .ref q_p1_sets, .ref q_p1_weights, .ref q_p1_stocks, .int v_p1_words, .ref q_p1_readers, .ref q_p1_eighths, .ref q_p1_wishes, .int v_p1_roads])), (q_p1_kinds, .inl (cI, 6, .inl f_p1_kinds)), (q_p1_sets, .inl (cI, 6, .inl f_p1_sets)), (q_p1_weights, .inl (cI, 6, .inl f_p1_weights)), (q_p1_readers, .inl (cI, 6, .inl f_p1_readers)), (q_p1_eighths, .inl (cI, 6, .inl f_p1_eighths)), (q_p1_wishes, .inl (cI, 6, .inl f_p1_wishes)), (q_p2, .inr (4, [.ref q_p2_has, .int v_p2_places])), (q_p2_has, .inl (cI, 12, .inl f_p2_has))] : va_W)) rfl rfl (by decide) (by decide) (by decide) (fun u => (zW_X10_seek cI cC cS q_this q_this_bestFill q_this_seen q_this_whole q_this_holes q_this_fill q_p1 q_p1_kinds q_p1_sets q_p1_weights q_p1_readers q_p1_eighths q_p1_wishes q_p2 q_p2_has q_p1_stocks v_this_known u3.1 0 (-9) f_this_bestFill u2 u3.2.1 u3.2.2 u v_p1_words v_p1_roads f_p1_kinds f_p1_sets f_p1_weights f_p1_readers f_p1_eighths f_p1_wishes v_p2_places f_p2_has)) [0, 1, 2, 3, 4, 14, 5, 6, 7, 8, 9, 10, 11, 12, 13] (fun u => rfl) (by decide) (fun u4 H locs hf hP hD hS => ?_)
    have hP : va_P (dC, dI) vwCl (zW_X10_seek cI cC cS q_this q_this_bestFill q_this_seen q_this_whole q_this_holes q_this_fill q_p1 q_p1_kinds q_p1_sets q_p1_weights q_p1_readers q_p1_eighths q_p1_wishes q_p2 q_p2_has q_p1_stocks v_this_known u3.1 0 (-9) f_this_bestFill u2 u3.2.1 u3.2.2 u4 v_p1_words v_p1_roads f_p1_kinds f_p1_sets f_p1_weights f_p1_readers f_p1_eighths f_p1_wishes v_p2_places f_p2_has) H := hP
    have hD : va_D A (zW_X10_seek cI cC cS q_this q_this_bestFill q_this_seen q_this_whole q_this_holes q_this_fill q_p1 q_p1_kinds q_p1_sets q_p1_weights q_p1_readers q_p1_eighths q_p1_wishes q_p2 q_p2_has q_p1_stocks v_this_known u3.1 0 (-9) f_this_bestFill u2 u3.2.1 u3.2.2 u4 v_p1_words v_p1_roads f_p1_kinds f_p1_sets f_p1_weights f_p1_readers f_p1_eighths f_p1_wishes v_p2_places f_p2_has) := hD
    refine lv_aload_n hx hb dX10_seek_43 rfl (lv_at hl 1 rfl) ?_
    refine va_get (D := (dC, dI)) (ci := 7) (v := .int v_p1_words) (C := RX8) (T := TX8) (N := 9) hx hb hts inX8 hown hK hP 6 rfl rfl 4 (by decide) lk7 (fun _ h9 => h9) rfl dX10_seek_44 ?_
    refine lv_aload_n hx hb dX10_seek_47 rfl (lv_at hl 0 rfl) ?_
    refine va_get (D := (dC, dI)) (ci := 9) (v := .int u3.1) (C := RX10) (T := TX10) (N := 9) hx hb hts inX10 hown hK hP 0 rfl rfl 1 (by decide) lk6 (fun _ h9 => h9) rfl dX10_seek_48 ?_
    refine z_Si (n := 2) (As := [.int v_p1_words, .int u3.1]) (rest := []) ⟨hx, hb, hml, hown, hts⟩ (c_X5_howMany l dC dI cI cC cS  _  v_p1_words u3.1 N _  hf) gX10_seek_X5_howMany rfl rfl rfl (by decide +kernel) ⟨Nat.le_of_ble_eq_true rfl, Nat.le_of_ble_eq_true rfl⟩ hK hP hD hS hA rfl hl.1 rfl (Nat.le_of_ble_eq_true rfl) dX10_seek_51 ⟨Nat.zero_le _, Nat.zero_le _⟩ [] [0, 1, 2, 3, 4, 5, 6, 7, 8, 9, 10, 11, 12, 13, 14] (([(q_this, .inr (9, [.int v_this_known, .int u3.1, .int 0, .int (-9), .ref q_this_bestFill, .ref q_this_seen, .ref q_this_whole, .ref q_this_holes, .ref q_this_fill])), (q_this_bestFill, .inl (cI, 4, .inl f_this_bestFill)), (q_this_seen, .inl (cI, 12, .inl u2)), (q_this_whole, .inl (cI, 12, .inl u3.2.1)), (q_this_holes, .inl (cI, 4, .inl u3.2.2)), (q_this_fill, .inl (cI, 4, .inl u4)), (q_p1, .inr (7, [.ref q_p1_kinds, .ref q_p1_sets, .ref q_p1_weights, .ref q_p1_stocks, .int v_p1_words, .ref q_p1_readers, .ref q_p1_eighths, .ref q_p1_wishes, .int v_p1_roads])), (q_p1_kinds, .inl (cI, 6, .inl f_p1_kinds)), (q_p1_sets, .inl (cI, 6, .inl f_p1_sets)), (q_p1_weights, .inl (cI, 6, .inl f_p1_weights)), (q_p1_readers, .inl (cI, 6, .inl f_p1_readers)), (q_p1_eighths, .inl (cI, 6, .inl f_p1_eighths)), (q_p1_wishes, .inl (cI, 6, .inl f_p1_wishes)), (q_p2, .inr (4, [.ref q_p2_has, .int v_p2_places])), (q_p2_has, .inl (cI, 12, .inl f_p2_has))] : va_W)) rfl rfl (by decide) (by decide) (by decide) (fun u => (zW_X10_seek cI cC cS q_this q_this_bestFill q_this_seen q_this_whole q_this_holes q_this_fill q_p1 q_p1_kinds q_p1_sets q_p1_weights q_p1_readers q_p1_eighths q_p1_wishes q_p2 q_p2_has q_p1_stocks v_this_known u3.1 0 (-9) f_this_bestFill u2 u3.2.1 u3.2.2 u4 v_p1_words v_p1_roads f_p1_kinds f_p1_sets f_p1_weights f_p1_readers f_p1_eighths f_p1_wishes v_p2_places f_p2_has)) [0, 1, 2, 3, 4, 5, 6, 7, 8, 9, 10, 11, 12, 13, 14] (fun u => rfl) (by decide) (fun r5 u5 H locs hf hP hD hS => ?_)
    have hP : va_P (dC, dI) vwCl (zW_X10_seek cI cC cS q_this q_this_bestFill q_this_seen q_this_whole q_this_holes q_this_fill q_p1 q_p1_kinds q_p1_sets q_p1_weights q_p1_readers q_p1_eighths q_p1_wishes q_p2 q_p2_has q_p1_stocks v_this_known u3.1 0 (-9) f_this_bestFill u2 u3.2.1 u3.2.2 u4 v_p1_words v_p1_roads f_p1_kinds f_p1_sets f_p1_weights f_p1_readers f_p1_eighths f_p1_wishes v_p2_places f_p2_has) H := hP
    have hD : va_D A (zW_X10_seek cI cC cS q_this q_this_bestFill q_this_seen q_this_whole q_this_holes q_this_fill q_p1 q_p1_kinds q_p1_sets q_p1_weights q_p1_readers q_p1_eighths q_p1_wishes q_p2 q_p2_has q_p1_stocks v_this_known u3.1 0 (-9) f_this_bestFill u2 u3.2.1 u3.2.2 u4 v_p1_words v_p1_roads f_p1_kinds f_p1_sets f_p1_weights f_p1_readers f_p1_eighths f_p1_wishes v_p2_places f_p2_has) := hD
    refine lv_istore_n (lv' := [(3, .int r5), (0, .ref q_this), (1, .ref q_p1), (2, .ref q_p2)]) hx hb dX10_seek_54 rfl hl (by decide) rfl (fun ls hl => ?_)
    exact L55 v_this_known u3.1 u3.2.2 N r5 0 (-9) f_this_bestFill u2 u3.2.1 u4 _ _ _ hP hD hS (lv_sub hl [1, 2, 3, 0] rfl) hf
  · replace hf := hf.2 c1
    exact z_vret hx hb hr hlocks (v_this_known, v_this_blanks, v_this_many, v_this_best, f_this_bestFill, f_this_seen, f_this_whole, f_this_holes, f_this_fill) hf hK hP hD hS dX10_seek_7
