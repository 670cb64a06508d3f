def ex_X8_meaning_254 (N : Nat) (n_p1 : Nat) (x7 : Int32) (x10 : Int32) (v_this_words : Int32) (f_this_kinds : Nat → Int32) (f_this_sets : Nat → Int32) (f_p1 : Nat → Int32) (Φ : Int32 → Prop) : Prop := 
    ((x10 = 0 → Φ 16) ∧
     (¬ (x10 = 0) → Φ x7))
def lp_X8_meaning_66 (N : Nat) (n_p1 : Nat) (x2 : Int32) (x4 : Int32) (x5 : Int32) (v_this_words : Int32) (f_this_kinds : Nat → Int32) (f_this_sets : Nat → Int32) (f_p1 : Nat → Int32) (Φ : Int32 → Prop) (k254 : Int32 → Int32 → Prop) : Nat → Int32 → Int32 → Int32 → Int32 → Int32 → Int32 → Int32 → Prop
  | 0, _, _, _, _, _, _, _ => False
  | n + 1, x6, x7, x8, x9, x10, x11, x12 => 
    ((x12 ≤ 0 → k254 x7 x10) ∧
     (¬ (x12 ≤ 0) → (vp_in x6 n_p1 ∧ (((x6 + x5) < x2 → wp_X8_hasWord N (f_p1 (Int32.toNatClampNeg x6)) v_this_words (fun r3 => 
     ((r3 = 0 → ((x4 = 2 → ((x9 = 0 → (lp_X8_meaning_66 N n_p1 x2 x4 x5 v_this_words f_this_kinds f_this_sets f_p1 Φ k254 n) (x6 + x5) x7 x8 x9 x10 x11 (x12 + (-1))) ∧
     (¬ (x9 = 0) → (((f_p1 (Int32.toNatClampNeg x6)) = (-1) → (lp_X8_meaning_66 N n_p1 x2 x4 x5 v_this_words f_this_kinds f_this_sets f_p1 Φ k254 n) (x6 + x5) x7 x8 x9 x10 x11 (x12 + (-1))) ∧
     (¬ ((f_p1 (Int32.toNatClampNeg x6)) = (-1)) → k254 x7 x10))))) ∧
     (¬ (x4 = 2) → (lp_X8_meaning_66 N n_p1 x2 x4 x5 v_this_words f_this_kinds f_this_sets f_p1 Φ k254 n) (x6 + x5) x7 x8 x9 x10 x11 (x12 + (-1))))) ∧
     (¬ (r3 = 0) → (vp_in (f_p1 (Int32.toNatClampNeg x6)) 6 ∧ (((f_this_kinds (Int32.toNatClampNeg (f_p1 (Int32.toNatClampNeg x6)))) = 4 → ((x4 = 2 → ((x9 = 0 → (lp_X8_meaning_66 N n_p1 x2 x4 x5 v_this_words f_this_kinds f_this_sets f_p1 Φ k254 n) (x6 + x5) x7 x8 x9 x10 x11 (x12 + (-1))) ∧
     (¬ (x9 = 0) → (((f_p1 (Int32.toNatClampNeg x6)) = (-1) → (lp_X8_meaning_66 N n_p1 x2 x4 x5 v_this_words f_this_kinds f_this_sets f_p1 Φ k254 n) (x6 + x5) x7 x8 x9 x10 x11 (x12 + (-1))) ∧
     (¬ ((f_p1 (Int32.toNatClampNeg x6)) = (-1)) → k254 x7 x10))))) ∧
     (¬ (x4 = 2) → (lp_X8_meaning_66 N n_p1 x2 x4 x5 v_this_words f_this_kinds f_this_sets f_p1 Φ k254 n) (x6 + x5) x7 x8 x9 x10 x11 (x12 + (-1))))) ∧
     (¬ ((f_this_kinds (Int32.toNatClampNeg (f_p1 (Int32.toNatClampNeg x6)))) = 4) → (((f_this_kinds (Int32.toNatClampNeg (f_p1 (Int32.toNatClampNeg x6)))) = 2 → ((x10 = 0 → Φ 16) ∧
     (¬ (x10 = 0) → (((f_this_kinds (Int32.toNatClampNeg (f_p1 (Int32.toNatClampNeg x6)))) = 2 → (lp_X8_meaning_66 N n_p1 x2 x4 x5 v_this_words f_this_kinds f_this_sets f_p1 Φ k254 n) (x6 + x5) x7 1 x9 0 x11 (x12 + (-1))) ∧
     (¬ ((f_this_kinds (Int32.toNatClampNeg (f_p1 (Int32.toNatClampNeg x6)))) = 2) → (lp_X8_meaning_66 N n_p1 x2 x4 x5 v_this_words f_this_kinds f_this_sets f_p1 Φ k254 n) (x6 + x5) x7 0 x9 0 x11 (x12 + (-1))))))) ∧
     (¬ ((f_this_kinds (Int32.toNatClampNeg (f_p1 (Int32.toNatClampNeg x6)))) = 2) → (((f_this_kinds (Int32.toNatClampNeg (f_p1 (Int32.toNatClampNeg x6)))) = 3 → ((x10 = 0 → Φ 16) ∧
     (¬ (x10 = 0) → (((f_this_kinds (Int32.toNatClampNeg (f_p1 (Int32.toNatClampNeg x6)))) = 2 → (lp_X8_meaning_66 N n_p1 x2 x4 x5 v_this_words f_this_kinds f_this_sets f_p1 Φ k254 n) (x6 + x5) x7 1 x9 0 x11 (x12 + (-1))) ∧
     (¬ ((f_this_kinds (Int32.toNatClampNeg (f_p1 (Int32.toNatClampNeg x6)))) = 2) → (lp_X8_meaning_66 N n_p1 x2 x4 x5 v_this_words f_this_kinds f_this_sets f_p1 Φ k254 n) (x6 + x5) x7 0 x9 0 x11 (x12 + (-1))))))) ∧
     (¬ ((f_this_kinds (Int32.toNatClampNeg (f_p1 (Int32.toNatClampNeg x6)))) = 3) → ((x10 = 0 → (((f_this_kinds (Int32.toNatClampNeg (f_p1 (Int32.toNatClampNeg x6)))) = 1 → (lp_X8_meaning_66 N n_p1 x2 x4 x5 v_this_words f_this_kinds f_this_sets f_p1 Φ k254 n) (x6 + x5) x7 x8 x9 x10 (x11 ^^^ 15) (x12 + (-1))) ∧
     (¬ ((f_this_kinds (Int32.toNatClampNeg (f_p1 (Int32.toNatClampNeg x6)))) = 1) → (vp_in (f_p1 (Int32.toNatClampNeg x6)) 6 ∧ ((x8 = 0 → (lp_X8_meaning_66 N n_p1 x2 x4 x5 v_this_words f_this_kinds f_this_sets f_p1 Φ k254 n) (x6 + x5) (x7 ||| ((f_this_sets (Int32.toNatClampNeg (f_p1 (Int32.toNatClampNeg x6)))) ^^^ x11)) x8 1 1 0 (x12 + (-1))) ∧
     (¬ (x8 = 0) → (lp_X8_meaning_66 N n_p1 x2 x4 x5 v_this_words f_this_kinds f_this_sets f_p1 Φ k254 n) (x6 + x5) (x7 &&& ((f_this_sets (Int32.toNatClampNeg (f_p1 (Int32.toNatClampNeg x6)))) ^^^ x11)) x8 1 1 0 (x12 + (-1)))))))) ∧
     (¬ (x10 = 0) → Φ 16))))))))))))) ∧
     (¬ ((x6 + x5) < x2) → wp_X8_hasWord N (f_p1 (Int32.toNatClampNeg x6)) v_this_words (fun r21 => 
     ((r21 = 0 → ((x4 = 2 → ((x9 = 0 → (lp_X8_meaning_66 N n_p1 x2 x4 x5 v_this_words f_this_kinds f_this_sets f_p1 Φ k254 n) ((x6 + x5) - x2) x7 x8 x9 x10 x11 (x12 + (-1))) ∧
     (¬ (x9 = 0) → (((f_p1 (Int32.toNatClampNeg x6)) = (-1) → (lp_X8_meaning_66 N n_p1 x2 x4 x5 v_this_words f_this_kinds f_this_sets f_p1 Φ k254 n) ((x6 + x5) - x2) x7 x8 x9 x10 x11 (x12 + (-1))) ∧
     (¬ ((f_p1 (Int32.toNatClampNeg x6)) = (-1)) → k254 x7 x10))))) ∧
     (¬ (x4 = 2) → (lp_X8_meaning_66 N n_p1 x2 x4 x5 v_this_words f_this_kinds f_this_sets f_p1 Φ k254 n) ((x6 + x5) - x2) x7 x8 x9 x10 x11 (x12 + (-1))))) ∧
     (¬ (r21 = 0) → (vp_in (f_p1 (Int32.toNatClampNeg x6)) 6 ∧ (((f_this_kinds (Int32.toNatClampNeg (f_p1 (Int32.toNatClampNeg x6)))) = 4 → ((x4 = 2 → ((x9 = 0 → (lp_X8_meaning_66 N n_p1 x2 x4 x5 v_this_words f_this_kinds f_this_sets f_p1 Φ k254 n) ((x6 + x5) - x2) x7 x8 x9 x10 x11 (x12 + (-1))) ∧
     (¬ (x9 = 0) → (((f_p1 (Int32.toNatClampNeg x6)) = (-1) → (lp_X8_meaning_66 N n_p1 x2 x4 x5 v_this_words f_this_kinds f_this_sets f_p1 Φ k254 n) ((x6 + x5) - x2) x7 x8 x9 x10 x11 (x12 + (-1))) ∧
     (¬ ((f_p1 (Int32.toNatClampNeg x6)) = (-1)) → k254 x7 x10))))) ∧
     (¬ (x4 = 2) → (lp_X8_meaning_66 N n_p1 x2 x4 x5 v_this_words f_this_kinds f_this_sets f_p1 Φ k254 n) ((x6 + x5) - x2) x7 x8 x9 x10 x11 (x12 + (-1))))) ∧
     (¬ ((f_this_kinds (Int32.toNatClampNeg (f_p1 (Int32.toNatClampNeg x6)))) = 4) → (((f_this_kinds (Int32.toNatClampNeg (f_p1 (Int32.toNatClampNeg x6)))) = 2 → ((x10 = 0 → Φ 16) ∧
     (¬ (x10 = 0) → (((f_this_kinds (Int32.toNatClampNeg (f_p1 (Int32.toNatClampNeg x6)))) = 2 → (lp_X8_meaning_66 N n_p1 x2 x4 x5 v_this_words f_this_kinds f_this_sets f_p1 Φ k254 n) ((x6 + x5) - x2) x7 1 x9 0 x11 (x12 + (-1))) ∧
     (¬ ((f_this_kinds (Int32.toNatClampNeg (f_p1 (Int32.toNatClampNeg x6)))) = 2) → (lp_X8_meaning_66 N n_p1 x2 x4 x5 v_this_words f_this_kinds f_this_sets f_p1 Φ k254 n) ((x6 + x5) - x2) x7 0 x9 0 x11 (x12 + (-1))))))) ∧
     (¬ ((f_this_kinds (Int32.toNatClampNeg (f_p1 (Int32.toNatClampNeg x6)))) = 2) → (((f_this_kinds (Int32.toNatClampNeg (f_p1 (Int32.toNatClampNeg x6)))) = 3 → ((x10 = 0 → Φ 16) ∧
     (¬ (x10 = 0) → (((f_this_kinds (Int32.toNatClampNeg (f_p1 (Int32.toNatClampNeg x6)))) = 2 → (lp_X8_meaning_66 N n_p1 x2 x4 x5 v_this_words f_this_kinds f_this_sets f_p1 Φ k254 n) ((x6 + x5) - x2) x7 1 x9 0 x11 (x12 + (-1))) ∧
     (¬ ((f_this_kinds (Int32.toNatClampNeg (f_p1 (Int32.toNatClampNeg x6)))) = 2) → (lp_X8_meaning_66 N n_p1 x2 x4 x5 v_this_words f_this_kinds f_this_sets f_p1 Φ k254 n) ((x6 + x5) - x2) x7 0 x9 0 x11 (x12 + (-1))))))) ∧
     (¬ ((f_this_kinds (Int32.toNatClampNeg (f_p1 (Int32.toNatClampNeg x6)))) = 3) → ((x10 = 0 → (((f_this_kinds (Int32.toNatClampNeg (f_p1 (Int32.toNatClampNeg x6)))) = 1 → (lp_X8_meaning_66 N n_p1 x2 x4 x5 v_this_words f_this_kinds f_this_sets f_p1 Φ k254 n) ((x6 + x5) - x2) x7 x8 x9 x10 (x11 ^^^ 15) (x12 + (-1))) ∧
     (¬ ((f_this_kinds (Int32.toNatClampNeg (f_p1 (Int32.toNatClampNeg x6)))) = 1) → (vp_in (f_p1 (Int32.toNatClampNeg x6)) 6 ∧ ((x8 = 0 → (lp_X8_meaning_66 N n_p1 x2 x4 x5 v_this_words f_this_kinds f_this_sets f_p1 Φ k254 n) ((x6 + x5) - x2) (x7 ||| ((f_this_sets (Int32.toNatClampNeg (f_p1 (Int32.toNatClampNeg x6)))) ^^^ x11)) x8 1 1 0 (x12 + (-1))) ∧
     (¬ (x8 = 0) → (lp_X8_meaning_66 N n_p1 x2 x4 x5 v_this_words f_this_kinds f_this_sets f_p1 Φ k254 n) ((x6 + x5) - x2) (x7 &&& ((f_this_sets (Int32.toNatClampNeg (f_p1 (Int32.toNatClampNeg x6)))) ^^^ x11)) x8 1 1 0 (x12 + (-1)))))))) ∧
     (¬ (x10 = 0) → Φ 16)))))))))))))))))
def wp_X8_meaning (N : Nat) (n_p1 : Nat) (x2 : Int32) (x3 : Int32) (x4 : Int32) (v_this_words : Int32) (f_this_kinds : Nat → Int32) (f_this_sets : Nat → Int32) (f_p1 : Nat → Int32) (Φ : Int32 → Prop) : Prop := 
    ((x2 < 1 → Φ 16) ∧
     (¬ (x2 < 1) → (((Int32.ofNat n_p1) < x2 → Φ 16) ∧
     (¬ ((Int32.ofNat n_p1) < x2) → ((x3 < 0 → Φ 16) ∧
     (¬ (x3 < 0) → ((x3 < x2 → wp_X8_strideOf N x4 x2 (fun r5 => 
     ((x4 = 4 → lp_X8_meaning_66 N n_p1 x2 x4 r5 v_this_words f_this_kinds f_this_sets f_p1 Φ (fun x7h66 x10h66 => ex_X8_meaning_254 N n_p1 x7h66 x10h66 v_this_words f_this_kinds f_this_sets f_p1 Φ) N x3 0 0 0 0 0 ((x2 + 1) / 2)) ∧
     (¬ (x4 = 4) → lp_X8_meaning_66 N n_p1 x2 x4 r5 v_this_words f_this_kinds f_this_sets f_p1 Φ (fun x7h66 x10h66 => ex_X8_meaning_254 N n_p1 x7h66 x10h66 v_this_words f_this_kinds f_this_sets f_p1 Φ) N x3 0 0 0 0 0 x2)))) ∧
     (¬ (x3 < x2) → Φ 16))))))))
abbrev zW_X8_meaning (cI cC cS : ClassId) (q_this : Nat) (q_this_kinds : Nat) (q_this_sets : Nat) (q_p1 : Nat) (q_this_weights : Nat) (q_this_stocks : Nat) (q_this_readers : Nat) (q_this_eighths : Nat) (q_this_wishes : Nat) (n_p1 : Nat) (v_this_words : Int32) (v_this_roads : Int32) (f_this_kinds : Nat → Int32) (f_this_sets : Nat → Int32) (f_p1 : Nat → Int32) : va_W := [(q_this, .inr (7, [.ref q_this_kinds, .ref q_this_sets, .ref q_this_weights, .ref q_this_stocks, .int v_this_words, .ref q_this_readers, .ref q_this_eighths, .ref q_this_wishes, .int v_this_roads])),
  (q_this_kinds, .inl (cI, 6, .inl f_this_kinds)),
  (q_this_sets, .inl (cI, 6, .inl f_this_sets)),
  (q_p1, .inl (cI, n_p1, .inl f_p1))]
abbrev zr_X8_meaning : Room := { frames := 1, cells := 0, slots := 0, locals := 21 }
set_option maxHeartbeats 4000000 in
set_option maxRecDepth 100000 in
theorem c_X8_meaning (l : Launch) (dC : Nat → ClassId) (dI : Nat → Nat → Nat) (cI cC cS : ClassId) (q_this : Nat) (q_this_kinds : Nat) (q_this_sets : Nat) (q_p1 : Nat) (q_this_weights : Nat) (q_this_stocks : Nat) (q_this_readers : Nat) (q_this_eighths : Nat) (q_this_wishes : Nat) (sz : Nat) (n_p1 : Nat) (v_this_words : Int32) (v_this_roads : Int32) (f_this_kinds : Nat → Int32) (f_this_sets : Nat → Int32) (f_p1 : Nat → Int32) (x2 : Int32) (x3 : Int32) (x4 : Int32) (N : Nat) (Φ : Int32 → Prop)  (hf : wp_X8_meaning N n_p1 x2 x3 x4 v_this_words f_this_kinds f_this_sets f_p1 Φ) : Met l yX8_meaning wsX8_meaning zr_X8_meaning (zPc (dC, dI) (zT cI cC cS) [.ref q_this, .ref q_p1, .int x2, .int x3, .int x4] sz (zW_X8_meaning cI cC cS q_this q_this_kinds q_this_sets q_p1 q_this_weights q_this_stocks q_this_readers q_this_eighths q_this_wishes n_p1 v_this_words v_this_roads f_this_kinds f_this_sets f_p1)) (zQi (dC, dI) (zT cI cC cS) (va_A (zW_X8_meaning cI cC cS q_this q_this_kinds q_this_sets q_p1 q_this_weights q_this_stocks q_this_readers q_this_eighths q_this_wishes n_p1 v_this_words v_this_roads f_this_kinds f_this_sets f_p1) sz) (fun (r : Int32) (u : Unit) => Φ r) (fun u => (zW_X8_meaning cI cC cS q_this q_this_kinds q_this_sets q_p1 q_this_weights q_this_stocks q_this_readers q_this_eighths q_this_wishes n_p1 v_this_words v_this_roads f_this_kinds f_this_sets f_p1))) 0 0 (va_A (zW_X8_meaning cI cC cS q_this q_this_kinds q_this_sets q_p1 q_this_weights q_this_stocks q_this_readers q_this_eighths q_this_wishes n_p1 v_this_words v_this_roads f_this_kinds f_this_sets f_p1) sz) := by
  refine Met.ofW (cc := cX8_meaning) (maxL := 16) (ret := (some .int)) (by decide) rfl ?_
  intro p e s m args below meth c s₁ B hml hv
  obtain ⟨rfl, hsz, hP, hK, hD0⟩ := hv
  have hx := B.exec
  have hb := B.bytes
  have hr := B.returns
  have hts := atoms_spec (ws := wsX8_meaning) B.pre
  have hown : s.vm.findClass RX8 = some m.cls := findClass_of_methodNamed B.named
  have hlocks := B.notSynchronized
  subst hsz
  have hD := hD0.self (sz := s.heap.size)
  have hA : ∀ q : Nat, s.heap.size ≤ q → va_A (zW_X8_meaning cI cC cS q_this q_this_kinds q_this_sets q_p1 q_this_weights q_this_stocks q_this_readers q_this_eighths q_this_wishes n_p1 v_this_words v_this_roads f_this_kinds f_this_sets f_p1) s.heap.size q := fun q h => Or.inr h
  generalize va_A (zW_X8_meaning cI cC cS q_this q_this_kinds q_this_sets q_p1 q_this_weights q_this_stocks q_this_readers q_this_eighths q_this_wishes n_p1 v_this_words v_this_roads f_this_kinds f_this_sets f_p1) s.heap.size = A at hD hA ⊢
  have hS : va_S A s.heap s.heap [] := va_S.rf
  have hl := lv_entry ([.ref q_this, .ref q_p1, .int x2, .int x3, .int x4]) (n := 16) (Nat.le_of_ble_eq_true rfl)
  rw [lg_entry_eq]
  generalize (lg_sl ([.ref q_this, .ref q_p1, .int x2, .int x3, .int x4]) ++ List.replicate (16 - (lg_sl ([.ref q_this, .ref q_p1, .int x2, .int x3, .int x4])).length) Slot.unset).toArray = ls at hl ⊢
  have hl : lv_has ls 16 [(0, .ref q_this), (1, .ref q_p1), (2, .int x2), (3, .int x3), (4, .int x4)] := hl
  have lk1 := hts (.fieldLink RX8 9 "ReadFromAnywhere$Tongue" "kinds" "[I") (List.mem_of_getElem? (i := 1) rfl)
  have inX8 : ∀ w ∈ u_ws RX8 TX8 9, w ∈ wsX8_meaning := fun _ h => List.mem_cons_of_mem _ (List.mem_append_right _ h)
  have lk2 := hts (.fieldLink RX8 15 "ReadFromAnywhere$Tongue" "sets" "[I") (List.mem_of_getElem? (i := 2) rfl)
  have E254 : ∀ (x7 : Int32) (x10 : Int32), ∀ (H : Heap) (locs : List Loc) (ls : Array Slot), va_P (dC, dI) vwCl (zW_X8_meaning cI cC cS q_this q_this_kinds q_this_sets q_p1 q_this_weights q_this_stocks q_this_readers q_this_eighths q_this_wishes n_p1 v_this_words v_this_roads f_this_kinds f_this_sets f_p1) H → va_D A (zW_X8_meaning cI cC cS q_this q_this_kinds q_this_sets q_p1 q_this_weights q_this_stocks q_this_readers q_this_eighths q_this_wishes n_p1 v_this_words v_this_roads f_this_kinds f_this_sets f_p1) → va_S A s.heap H locs → lv_has ls 16 [(7, .int x7), (10, .int x10)] → ex_X8_meaning_254 N n_p1 x7 x10 v_this_words f_this_kinds f_this_sets f_p1 Φ → W p l e (headSpec wsX8_meaning zr_X8_meaning).room s m ([.ref q_this, .ref q_p1, .int x2, .int x3, .int x4] : List Value).toArray below meth c H locs 0 0 (MQ below (zQi (dC, dI) (zT cI cC cS) A (fun (r : Int32) (u : Unit) => Φ r) (fun u => (zW_X8_meaning cI cC cS q_this q_this_kinds q_this_sets q_p1 q_this_weights q_this_stocks q_this_readers q_this_eighths q_this_wishes n_p1 v_this_words v_this_roads f_this_kinds f_this_sets f_p1))) ([.ref q_this, .ref q_p1, .int x2, .int x3, .int x4] : List Value).toArray s 0 0 A) (F0 m 254 ls []) := by
    intro x7 x10 H locs ls hP hD hS hl hf
    unfold ex_X8_meaning_254 at hf
    refine lv_iload hx hb dX8_meaning_254 (lv_at hl 1 rfl) ?_
    refine lv_if_eq (tgt := 264) hx hb dX8_meaning_256 (by decide) (fun c1 => ?_) (fun c1 => ?_)
    · replace hf := hf.1 c1
      refine lv_bipush (v := 16) hx hb dX8_meaning_264 (by decide) ?_
      exact z_iret hx hb hr hlocks () hf hK hP hD hS dX8_meaning_266
    · replace hf := hf.2 c1
      refine lv_iload hx hb dX8_meaning_259 (lv_at hl 0 rfl) ?_
      refine lv_goto (tgt := 266) hx hb dX8_meaning_261 (by decide) ?_
      exact z_iret hx hb hr hlocks () hf hK hP hD hS dX8_meaning_266
  have L66 : ∀ (x5 : Int32), ∀ (n66 : Nat) (x6 : Int32) (x7 : Int32) (x8 : Int32) (x9 : Int32) (x10 : Int32) (x11 : Int32) (x12 : Int32), ∀ (H : Heap) (locs : List Loc) (ls : Array Slot), va_P (dC, dI) vwCl (zW_X8_meaning cI cC cS q_this q_this_kinds q_this_sets q_p1 q_this_weights q_this_stocks q_this_readers q_this_eighths q_this_wishes n_p1 v_this_words v_this_roads f_this_kinds f_this_sets f_p1) H → va_D A (zW_X8_meaning cI cC cS q_this q_this_kinds q_this_sets q_p1 q_this_weights q_this_stocks q_this_readers q_this_eighths q_this_wishes n_p1 v_this_words v_this_roads f_this_kinds f_this_sets f_p1) → va_S A s.heap H locs → lv_has ls 16 [(0, .ref q_this), (1, .ref q_p1), (2, .int x2), (4, .int x4), (5, .int x5), (6, .int x6), (7, .int x7), (8, .int x8), (9, .int x9), (10, .int x10), (11, .int x11), (12, .int x12)] → lp_X8_meaning_66 N n_p1 x2 x4 x5 v_this_words f_this_kinds f_this_sets f_p1 Φ (fun x7h66 x10h66 => ex_X8_meaning_254 N n_p1 x7h66 x10h66 v_this_words f_this_kinds f_this_sets f_p1 Φ) n66 x6 x7 x8 x9 x10 x11 x12 → W p l e (headSpec wsX8_meaning zr_X8_meaning).room s m ([.ref q_this, .ref q_p1, .int x2, .int x3, .int x4] : List Value).toArray below meth c H locs 0 0 (MQ below (zQi (dC, dI) (zT cI cC cS) A (fun (r : Int32) (u : Unit) => Φ r) (fun u => (zW_X8_meaning cI cC cS q_this q_this_kinds q_this_sets q_p1 q_this_weights q_this_stocks q_this_readers q_this_eighths q_this_wishes n_p1 v_this_words v_this_roads f_this_kinds f_this_sets f_p1))) ([.ref q_this, .ref q_p1, .int x2, .int x3, .int x4] : List Value).toArray s 0 0 A) (F0 m 66 ls []) := by
    intro x5
    intro n66
    induction n66 with
    | zero =>
      intro x6 x7 x8 x9 x10 x11 x12 H locs ls hP hD hS hl hf
      exact absurd hf (by rw [lp_X8_meaning_66]; exact id)
    | succ n66 ih66 =>
      intro x6 x7 x8 x9 x10 x11 x12 H locs ls hP hD hS hl hf
      rw [lp_X8_meaning_66] at hf
      refine lv_iload hx hb dX8_meaning_66 (lv_at hl 11 rfl) ?_
      refine lv_if_le (tgt := 254) hx hb dX8_meaning_68 (by decide) (fun c2 => ?_) (fun c2 => ?_)
      · replace hf := hf.1 c2
        exact E254 x7 x10 _ _ _ hP hD hS (lv_sub hl [6, 9] rfl) hf
      · replace hf := hf.2 c2
        refine lv_aload_n hx hb dX8_meaning_71 rfl (lv_at hl 1 rfl) ?_
        refine lv_iload hx hb dX8_meaning_72 (lv_at hl 5 rfl) ?_
        refine va_iald hx hb hK hP 3 0 rfl rfl hf.1 dX8_meaning_74 ?_
        replace hf := hf.2
        refine lv_istore (lv' := [(13, .int (f_p1 (Int32.toNatClampNeg x6))), (0, .ref q_this), (1, .ref q_p1), (2, .int x2), (4, .int x4), (5, .int x5), (6, .int x6), (7, .int x7), (8, .int x8), (9, .int x9), (10, .int x10), (11, .int x11), (12, .int x12)]) hx hb dX8_meaning_75 hl (by decide) rfl (fun ls hl => ?_)
        refine lv_iload hx hb dX8_meaning_77 (lv_at hl 6 rfl) ?_
        refine lv_iload hx hb dX8_meaning_79 (lv_at hl 5 rfl) ?_
        refine lv_iadd hx hb dX8_meaning_81 ?_
        refine lv_istore (lv' := [(6, .int (x6 + x5)), (13, .int (f_p1 (Int32.toNatClampNeg x6))), (0, .ref q_this), (1, .ref q_p1), (2, .int x2), (4, .int x4), (5, .int x5), (7, .int x7), (8, .int x8), (9, .int x9), (10, .int x10), (11, .int x11), (12, .int x12)]) hx hb dX8_meaning_82 hl (by decide) rfl (fun ls hl => ?_)
        refine lv_iload hx hb dX8_meaning_84 (lv_at hl 0 rfl) ?_
        refine lv_iload_n hx hb dX8_meaning_86 rfl (lv_at hl 4 rfl) ?_
        refine lv_icmp_lt (tgt := 96) hx hb dX8_meaning_87 (by decide) (fun c3 => ?_) (fun c3 => ?_)
        · replace hf := hf.1 c3
          refine lv_aload_n hx hb dX8_meaning_96 rfl (lv_at hl 2 rfl) ?_
          refine lv_iload hx hb dX8_meaning_97 (lv_at hl 1 rfl) ?_
          refine z_Vi (n := 1) (As := [.int (f_p1 (Int32.toNatClampNeg x6))]) (rest := []) ⟨hx, hb, hml, hown, hts⟩ (c_X8_hasWord l dC dI cI cC cS q_this q_this_kinds q_this_sets q_this_weights q_this_stocks q_this_readers q_this_eighths q_this_wishes _ v_this_words v_this_roads (f_p1 (Int32.toNatClampNeg x6)) N _  hf) gX8_meaning_X8_hasWord rfl rfl rfl (by decide +kernel) ⟨Nat.le_of_ble_eq_true rfl, Nat.le_of_ble_eq_true rfl⟩ hK hP hD hS hA 0 7 rfl rfl rfl hl.1 rfl (Nat.le_of_ble_eq_true rfl) dX8_meaning_99 ⟨Nat.zero_le _, Nat.zero_le _⟩ [0] [1, 2, 3] (([(q_this_kinds, .inl (cI, 6, .inl f_this_kinds)), (q_this_sets, .inl (cI, 6, .inl f_this_sets)), (q_p1, .inl (cI, n_p1, .inl f_p1))] : va_W)) rfl rfl (by decide) (by decide) (by decide) (fun u => (zW_X8_meaning cI cC cS q_this q_this_kinds q_this_sets q_p1 q_this_weights q_this_stocks q_this_readers q_this_eighths q_this_wishes n_p1 v_this_words v_this_roads f_this_kinds f_this_sets f_p1)) [3, 0, 1, 2] (fun u => rfl) (by decide) (fun r4 u4 H locs hf hP hD hS => ?_)
          have hP : va_P (dC, dI) vwCl (zW_X8_meaning cI cC cS q_this q_this_kinds q_this_sets q_p1 q_this_weights q_this_stocks q_this_readers q_this_eighths q_this_wishes n_p1 v_this_words v_this_roads f_this_kinds f_this_sets f_p1) H := hP
          have hD : va_D A (zW_X8_meaning cI cC cS q_this q_this_kinds q_this_sets q_p1 q_this_weights q_this_stocks q_this_readers q_this_eighths q_this_wishes n_p1 v_this_words v_this_roads f_this_kinds f_this_sets f_p1) := hD
          refine lv_if_eq (tgt := 115) hx hb dX8_meaning_102 (by decide) (fun c5 => ?_) (fun c5 => ?_)
          · replace hf := hf.1 c5
            refine lv_iconst (v := 4) hx hb dX8_meaning_115 (by decide) ?_
            refine lv_istore (lv' := [(14, .int 4), (6, .int (x6 + x5)), (13, .int (f_p1 (Int32.toNatClampNeg x6))), (0, .ref q_this), (1, .ref q_p1), (2, .int x2), (4, .int x4), (5, .int x5), (7, .int x7), (8, .int x8), (9, .int x9), (10, .int x10), (11, .int x11), (12, .int x12)]) hx hb dX8_meaning_116 hl (by decide) rfl (fun ls hl => ?_)
            refine lv_iload hx hb dX8_meaning_118 (lv_at hl 0 rfl) ?_
            refine lv_iconst (v := 4) hx hb dX8_meaning_120 (by decide) ?_
            refine lv_icmp_ne (tgt := 144) hx hb dX8_meaning_121 (by decide) (fun c9 => absurd c9 (by decide)) (fun _ => ?_)
            refine lv_iload hx hb dX8_meaning_124 (lv_at hl 6 rfl) ?_
            refine lv_iconst (v := 2) hx hb dX8_meaning_126 (by decide) ?_
            refine lv_icmp_ne (tgt := 248) hx hb dX8_meaning_127 (by decide) (fun c6 => ?_) (fun c6 => ?_)
            · replace hf := hf.2 c6
              refine lv_iinc (v := (x12 + (-1))) (lv' := [(12, .int (x12 + (-1))), (14, .int 4), (6, .int (x6 + x5)), (13, .int (f_p1 (Int32.toNatClampNeg x6))), (0, .ref q_this), (1, .ref q_p1), (2, .int x2), (4, .int x4), (5, .int x5), (7, .int x7), (8, .int x8), (9, .int x9), (10, .int x10), (11, .int x11)]) hx hb dX8_meaning_248 hl (k := 13) rfl (by rfl) (by decide) rfl (fun ls hl => ?_)
              refine lv_goto (tgt := 66) hx hb dX8_meaning_251 (by decide) ?_
              exact ih66 (x6 + x5) x7 x8 x9 x10 x11 (x12 + (-1)) _ _ _ hP hD hS (lv_sub hl [4, 5, 6, 7, 8, 2, 9, 10, 11, 12, 13, 0] rfl) hf
            · replace hf := hf.1 c6
              refine lv_iload hx hb dX8_meaning_130 (lv_at hl 10 rfl) ?_
              refine lv_if_eq (tgt := 248) hx hb dX8_meaning_132 (by decide) (fun c7 => ?_) (fun c7 => ?_)
              · replace hf := hf.1 c7
                refine lv_iinc (v := (x12 + (-1))) (lv' := [(12, .int (x12 + (-1))), (14, .int 4), (6, .int (x6 + x5)), (13, .int (f_p1 (Int32.toNatClampNeg x6))), (0, .ref q_this), (1, .ref q_p1), (2, .int x2), (4, .int x4), (5, .int x5), (7, .int x7), (8, .int x8), (9, .int x9), (10, .int x10), (11, .int x11)]) hx hb dX8_meaning_248 hl (k := 13) rfl (by rfl) (by decide) rfl (fun ls hl => ?_)
                refine lv_goto (tgt := 66) hx hb dX8_meaning_251 (by decide) ?_
                exact ih66 (x6 + x5) x7 x8 x9 x10 x11 (x12 + (-1)) _ _ _ hP hD hS (lv_sub hl [4, 5, 6, 7, 8, 2, 9, 10, 11, 12, 13, 0] rfl) hf
              · replace hf := hf.2 c7
                refine lv_iload hx hb dX8_meaning_135 (lv_at hl 2 rfl) ?_
                refine lv_iconst (v := (-1)) hx hb dX8_meaning_137 (by decide) ?_
                refine lv_icmp_eq (tgt := 248) hx hb dX8_meaning_138 (by decide) (fun c8 => ?_) (fun c8 => ?_)
                · replace hf := hf.1 c8
                  refine lv_iinc (v := (x12 + (-1))) (lv' := [(12, .int (x12 + (-1))), (14, .int 4), (6, .int (x6 + x5)), (13, .int (f_p1 (Int32.toNatClampNeg x6))), (0, .ref q_this), (1, .ref q_p1), (2, .int x2), (4, .int x4), (5, .int x5), (7, .int x7), (8, .int x8), (9, .int x9), (10, .int x10), (11, .int x11)]) hx hb dX8_meaning_248 hl (k := 13) rfl (by rfl) (by decide) rfl (fun ls hl => ?_)
                  refine lv_goto (tgt := 66) hx hb dX8_meaning_251 (by decide) ?_
                  exact ih66 (x6 + x5) x7 x8 x9 x10 x11 (x12 + (-1)) _ _ _ hP hD hS (lv_sub hl [4, 5, 6, 7, 8, 2, 9, 10, 11, 12, 13, 0] rfl) hf
                · replace hf := hf.2 c8
                  refine lv_goto (tgt := 254) hx hb dX8_meaning_141 (by decide) ?_
                  exact E254 x7 x10 _ _ _ hP hD hS (lv_sub hl [8, 11] rfl) hf
          · replace hf := hf.2 c5
            refine lv_aload_n hx hb dX8_meaning_105 rfl (lv_at hl 2 rfl) ?_
            refine va_get (D := (dC, dI)) (ci := 7) (v := .ref q_this_kinds) (C := RX8) (T := TX8) (N := 9) hx hb hts inX8 hown hK hP 0 rfl rfl 0 (by decide) lk1 (fun _ h9 => h9) rfl dX8_meaning_106 ?_
            refine lv_iload hx hb dX8_meaning_109 (lv_at hl 1 rfl) ?_
            refine va_iald hx hb hK hP 1 0 rfl rfl hf.1 dX8_meaning_111 ?_
            replace hf := hf.2
            refine lv_goto (tgt := 116) hx hb dX8_meaning_112 (by decide) ?_
            refine lv_istore (lv' := [(14, .int (f_this_kinds (Int32.toNatClampNeg (f_p1 (Int32.toNatClampNeg x6))))), (6, .int (x6 + x5)), (13, .int (f_p1 (Int32.toNatClampNeg x6))), (0, .ref q_this), (1, .ref q_p1), (2, .int x2), (4, .int x4), (5, .int x5), (7, .int x7), (8, .int x8), (9, .int x9), (10, .int x10), (11, .int x11), (12, .int x12)]) hx hb dX8_meaning_116 hl (by decide) rfl (fun ls hl => ?_)
            refine lv_iload hx hb dX8_meaning_118 (lv_at hl 0 rfl) ?_
            refine lv_iconst (v := 4) hx hb dX8_meaning_120 (by decide) ?_
            refine lv_icmp_ne (tgt := 144) hx hb dX8_meaning_121 (by decide) (fun c9 => ?_) (fun c9 => ?_)
            · replace hf := hf.2 c9
              refine lv_iload hx hb dX8_meaning_144 (lv_at hl 0 rfl) ?_
              refine lv_iconst (v := 2) hx hb dX8_meaning_146 (by decide) ?_
              refine lv_icmp_eq (tgt := 156) hx hb dX8_meaning_147 (by decide) (fun c10 => ?_) (fun c10 => ?_)
              · replace hf := hf.1 c10
                refine lv_iload hx hb dX8_meaning_156 (lv_at hl 11 rfl) ?_
                refine lv_if_ne (tgt := 164) hx hb dX8_meaning_158 (by decide) (fun c11 => ?_) (fun c11 => ?_)
                · replace hf := hf.2 c11
                  refine lv_iconst (v := 0) hx hb dX8_meaning_164 (by decide) ?_
                  refine lv_istore (lv' := [(10, .int 0), (14, .int (f_this_kinds (Int32.toNatClampNeg (f_p1 (Int32.toNatClampNeg x6))))), (6, .int (x6 + x5)), (13, .int (f_p1 (Int32.toNatClampNeg x6))), (0, .ref q_this), (1, .ref q_p1), (2, .int x2), (4, .int x4), (5, .int x5), (7, .int x7), (8, .int x8), (9, .int x9), (11, .int x11), (12, .int x12)]) hx hb dX8_meaning_165 hl (by decide) rfl (fun ls hl => ?_)
                  refine lv_iload hx hb dX8_meaning_167 (lv_at hl 1 rfl) ?_
                  refine lv_iconst (v := 2) hx hb dX8_meaning_169 (by decide) ?_
                  refine lv_icmp_ne (tgt := 177) hx hb dX8_meaning_170 (by decide) (fun c12 => ?_) (fun c12 => ?_)
                  · replace hf := hf.2 c12
                    refine lv_iconst (v := 0) hx hb dX8_meaning_177 (by decide) ?_
                    refine lv_istore (lv' := [(8, .int 0), (10, .int 0), (14, .int (f_this_kinds (Int32.toNatClampNeg (f_p1 (Int32.toNatClampNeg x6))))), (6, .int (x6 + x5)), (13, .int (f_p1 (Int32.toNatClampNeg x6))), (0, .ref q_this), (1, .ref q_p1), (2, .int x2), (4, .int x4), (5, .int x5), (7, .int x7), (9, .int x9), (11, .int x11), (12, .int x12)]) hx hb dX8_meaning_178 hl (by decide) rfl (fun ls hl => ?_)
                    refine lv_goto (tgt := 248) hx hb dX8_meaning_180 (by decide) ?_
                    refine lv_iinc (v := (x12 + (-1))) (lv' := [(12, .int (x12 + (-1))), (8, .int 0), (10, .int 0), (14, .int (f_this_kinds (Int32.toNatClampNeg (f_p1 (Int32.toNatClampNeg x6))))), (6, .int (x6 + x5)), (13, .int (f_p1 (Int32.toNatClampNeg x6))), (0, .ref q_this), (1, .ref q_p1), (2, .int x2), (4, .int x4), (5, .int x5), (7, .int x7), (9, .int x9), (11, .int x11)]) hx hb dX8_meaning_248 hl (k := 13) rfl (by rfl) (by decide) rfl (fun ls hl => ?_)
                    refine lv_goto (tgt := 66) hx hb dX8_meaning_251 (by decide) ?_
                    exact ih66 (x6 + x5) x7 0 x9 0 x11 (x12 + (-1)) _ _ _ hP hD hS (lv_sub hl [6, 7, 8, 9, 10, 4, 11, 1, 12, 2, 13, 0] rfl) hf
                  · replace hf := hf.1 c12
                    refine lv_iconst (v := 1) hx hb dX8_meaning_173 (by decide) ?_
                    refine lv_goto (tgt := 178) hx hb dX8_meaning_174 (by decide) ?_
                    refine lv_istore (lv' := [(8, .int 1), (10, .int 0), (14, .int (f_this_kinds (Int32.toNatClampNeg (f_p1 (Int32.toNatClampNeg x6))))), (6, .int (x6 + x5)), (13, .int (f_p1 (Int32.toNatClampNeg x6))), (0, .ref q_this), (1, .ref q_p1), (2, .int x2), (4, .int x4), (5, .int x5), (7, .int x7), (9, .int x9), (11, .int x11), (12, .int x12)]) hx hb dX8_meaning_178 hl (by decide) rfl (fun ls hl => ?_)
                    refine lv_goto (tgt := 248) hx hb dX8_meaning_180 (by decide) ?_
                    refine lv_iinc (v := (x12 + (-1))) (lv' := [(12, .int (x12 + (-1))), (8, .int 1), (10, .int 0), (14, .int (f_this_kinds (Int32.toNatClampNeg (f_p1 (Int32.toNatClampNeg x6))))), (6, .int (x6 + x5)), (13, .int (f_p1 (Int32.toNatClampNeg x6))), (0, .ref q_this), (1, .ref q_p1), (2, .int x2), (4, .int x4), (5, .int x5), (7, .int x7), (9, .int x9), (11, .int x11)]) hx hb dX8_meaning_248 hl (k := 13) rfl (by rfl) (by decide) rfl (fun ls hl => ?_)
                    refine lv_goto (tgt := 66) hx hb dX8_meaning_251 (by decide) ?_
                    exact ih66 (x6 + x5) x7 1 x9 0 x11 (x12 + (-1)) _ _ _ hP hD hS (lv_sub hl [6, 7, 8, 9, 10, 4, 11, 1, 12, 2, 13, 0] rfl) hf
                · replace hf := hf.1 c11
                  refine lv_bipush (v := 16) hx hb dX8_meaning_161 (by decide) ?_
                  exact z_iret hx hb hr hlocks () hf hK hP hD hS dX8_meaning_163
              · replace hf := hf.2 c10
                refine lv_iload hx hb dX8_meaning_150 (lv_at hl 0 rfl) ?_
                refine lv_iconst (v := 3) hx hb dX8_meaning_152 (by decide) ?_
                refine lv_icmp_ne (tgt := 183) hx hb dX8_meaning_153 (by decide) (fun c13 => ?_) (fun c13 => ?_)
                · replace hf := hf.2 c13
                  refine lv_iload hx hb dX8_meaning_183 (lv_at hl 11 rfl) ?_
                  refine lv_if_eq (tgt := 191) hx hb dX8_meaning_185 (by decide) (fun c14 => ?_) (fun c14 => ?_)
                  · replace hf := hf.1 c14
                    refine lv_iload hx hb dX8_meaning_191 (lv_at hl 0 rfl) ?_
                    refine lv_iconst (v := 1) hx hb dX8_meaning_193 (by decide) ?_
                    refine lv_icmp_ne (tgt := 207) hx hb dX8_meaning_194 (by decide) (fun c15 => ?_) (fun c15 => ?_)
                    · replace hf := hf.2 c15
                      refine lv_aload_n hx hb dX8_meaning_207 rfl (lv_at hl 3 rfl) ?_
                      refine va_get (D := (dC, dI)) (ci := 7) (v := .ref q_this_sets) (C := RX8) (T := TX8) (N := 9) hx hb hts inX8 hown hK hP 0 rfl rfl 1 (by decide) lk2 (fun _ h9 => h9) rfl dX8_meaning_208 ?_
                      refine lv_iload hx hb dX8_meaning_211 (lv_at hl 2 rfl) ?_
                      refine va_iald hx hb hK hP 2 0 rfl rfl hf.1 dX8_meaning_213 ?_
                      replace hf := hf.2
                      refine lv_iload hx hb dX8_meaning_214 (lv_at hl 12 rfl) ?_
                      refine lv_ixor hx hb dX8_meaning_216 ?_
                      refine lv_istore (lv' := [(15, .int ((f_this_sets (Int32.toNatClampNeg (f_p1 (Int32.toNatClampNeg x6)))) ^^^ x11)), (14, .int (f_this_kinds (Int32.toNatClampNeg (f_p1 (Int32.toNatClampNeg x6))))), (6, .int (x6 + x5)), (13, .int (f_p1 (Int32.toNatClampNeg x6))), (0, .ref q_this), (1, .ref q_p1), (2, .int x2), (4, .int x4), (5, .int x5), (7, .int x7), (8, .int x8), (9, .int x9), (10, .int x10), (11, .int x11), (12, .int x12)]) hx hb dX8_meaning_217 hl (by decide) rfl (fun ls hl => ?_)
                      refine lv_iload hx hb dX8_meaning_219 (lv_at hl 10 rfl) ?_
                      refine lv_if_eq (tgt := 232) hx hb dX8_meaning_221 (by decide) (fun c16 => ?_) (fun c16 => ?_)
                      · replace hf := hf.1 c16
                        refine lv_iload hx hb dX8_meaning_232 (lv_at hl 9 rfl) ?_
                        refine lv_iload hx hb dX8_meaning_234 (lv_at hl 0 rfl) ?_
                        refine lv_ior hx hb dX8_meaning_236 ?_
                        refine lv_istore (lv' := [(7, .int (x7 ||| ((f_this_sets (Int32.toNatClampNeg (f_p1 (Int32.toNatClampNeg x6)))) ^^^ x11))), (15, .int ((f_this_sets (Int32.toNatClampNeg (f_p1 (Int32.toNatClampNeg x6)))) ^^^ x11)), (14, .int (f_this_kinds (Int32.toNatClampNeg (f_p1 (Int32.toNatClampNeg x6))))), (6, .int (x6 + x5)), (13, .int (f_p1 (Int32.toNatClampNeg x6))), (0, .ref q_this), (1, .ref q_p1), (2, .int x2), (4, .int x4), (5, .int x5), (8, .int x8), (9, .int x9), (10, .int x10), (11, .int x11), (12, .int x12)]) hx hb dX8_meaning_237 hl (by decide) rfl (fun ls hl => ?_)
                        refine lv_iconst (v := 0) hx hb dX8_meaning_239 (by decide) ?_
                        refine lv_istore (lv' := [(11, .int 0), (7, .int (x7 ||| ((f_this_sets (Int32.toNatClampNeg (f_p1 (Int32.toNatClampNeg x6)))) ^^^ x11))), (15, .int ((f_this_sets (Int32.toNatClampNeg (f_p1 (Int32.toNatClampNeg x6)))) ^^^ x11)), (14, .int (f_this_kinds (Int32.toNatClampNeg (f_p1 (Int32.toNatClampNeg x6))))), (6, .int (x6 + x5)), (13, .int (f_p1 (Int32.toNatClampNeg x6))), (0, .ref q_this), (1, .ref q_p1), (2, .int x2), (4, .int x4), (5, .int x5), (8, .int x8), (9, .int x9), (10, .int x10), (12, .int x12)]) hx hb dX8_meaning_240 hl (by decide) rfl (fun ls hl => ?_)
                        refine lv_iconst (v := 1) hx hb dX8_meaning_242 (by decide) ?_
                        refine lv_istore (lv' := [(9, .int 1), (11, .int 0), (7, .int (x7 ||| ((f_this_sets (Int32.toNatClampNeg (f_p1 (Int32.toNatClampNeg x6)))) ^^^ x11))), (15, .int ((f_this_sets (Int32.toNatClampNeg (f_p1 (Int32.toNatClampNeg x6)))) ^^^ x11)), (14, .int (f_this_kinds (Int32.toNatClampNeg (f_p1 (Int32.toNatClampNeg x6))))), (6, .int (x6 + x5)), (13, .int (f_p1 (Int32.toNatClampNeg x6))), (0, .ref q_this), (1, .ref q_p1), (2, .int x2), (4, .int x4), (5, .int x5), (8, .int x8), (10, .int x10), (12, .int x12)]) hx hb dX8_meaning_243 hl (by decide) rfl (fun ls hl => ?_)
                        refine lv_iconst (v := 1) hx hb dX8_meaning_245 (by decide) ?_
                        refine lv_istore (lv' := [(10, .int 1), (9, .int 1), (11, .int 0), (7, .int (x7 ||| ((f_this_sets (Int32.toNatClampNeg (f_p1 (Int32.toNatClampNeg x6)))) ^^^ x11))), (15, .int ((f_this_sets (Int32.toNatClampNeg (f_p1 (Int32.toNatClampNeg x6)))) ^^^ x11)), (14, .int (f_this_kinds (Int32.toNatClampNeg (f_p1 (Int32.toNatClampNeg x6))))), (6, .int (x6 + x5)), (13, .int (f_p1 (Int32.toNatClampNeg x6))), (0, .ref q_this), (1, .ref q_p1), (2, .int x2), (4, .int x4), (5, .int x5), (8, .int x8), (12, .int x12)]) hx hb dX8_meaning_246 hl (by decide) rfl (fun ls hl => ?_)
                        refine lv_iinc (v := (x12 + (-1))) (lv' := [(12, .int (x12 + (-1))), (10, .int 1), (9, .int 1), (11, .int 0), (7, .int (x7 ||| ((f_this_sets (Int32.toNatClampNeg (f_p1 (Int32.toNatClampNeg x6)))) ^^^ x11))), (15, .int ((f_this_sets (Int32.toNatClampNeg (f_p1 (Int32.toNatClampNeg x6)))) ^^^ x11)), (14, .int (f_this_kinds (Int32.toNatClampNeg (f_p1 (Int32.toNatClampNeg x6))))), (6, .int (x6 + x5)), (13, .int (f_p1 (Int32.toNatClampNeg x6))), (0, .ref q_this), (1, .ref q_p1), (2, .int x2), (4, .int x4), (5, .int x5), (8, .int x8)]) hx hb dX8_meaning_248 hl (k := 14) rfl (by rfl) (by decide) rfl (fun ls hl => ?_)
                        refine lv_goto (tgt := 66) hx hb dX8_meaning_251 (by decide) ?_
                        exact ih66 (x6 + x5) (x7 ||| ((f_this_sets (Int32.toNatClampNeg (f_p1 (Int32.toNatClampNeg x6)))) ^^^ x11)) x8 1 1 0 (x12 + (-1)) _ _ _ hP hD hS (lv_sub hl [9, 10, 11, 12, 13, 7, 4, 14, 2, 1, 3, 0] rfl) hf
                      · replace hf := hf.2 c16
                        refine lv_iload hx hb dX8_meaning_224 (lv_at hl 9 rfl) ?_
                        refine lv_iload hx hb dX8_meaning_226 (lv_at hl 0 rfl) ?_
                        refine lv_iand hx hb dX8_meaning_228 ?_
                        refine lv_goto (tgt := 237) hx hb dX8_meaning_229 (by decide) ?_
                        refine lv_istore (lv' := [(7, .int (x7 &&& ((f_this_sets (Int32.toNatClampNeg (f_p1 (Int32.toNatClampNeg x6)))) ^^^ x11))), (15, .int ((f_this_sets (Int32.toNatClampNeg (f_p1 (Int32.toNatClampNeg x6)))) ^^^ x11)), (14, .int (f_this_kinds (Int32.toNatClampNeg (f_p1 (Int32.toNatClampNeg x6))))), (6, .int (x6 + x5)), (13, .int (f_p1 (Int32.toNatClampNeg x6))), (0, .ref q_this), (1, .ref q_p1), (2, .int x2), (4, .int x4), (5, .int x5), (8, .int x8), (9, .int x9), (10, .int x10), (11, .int x11), (12, .int x12)]) hx hb dX8_meaning_237 hl (by decide) rfl (fun ls hl => ?_)
                        refine lv_iconst (v := 0) hx hb dX8_meaning_239 (by decide) ?_
                        refine lv_istore (lv' := [(11, .int 0), (7, .int (x7 &&& ((f_this_sets (Int32.toNatClampNeg (f_p1 (Int32.toNatClampNeg x6)))) ^^^ x11))), (15, .int ((f_this_sets (Int32.toNatClampNeg (f_p1 (Int32.toNatClampNeg x6)))) ^^^ x11)), (14, .int (f_this_kinds (Int32.toNatClampNeg (f_p1 (Int32.toNatClampNeg x6))))), (6, .int (x6 + x5)), (13, .int (f_p1 (Int32.toNatClampNeg x6))), (0, .ref q_this), (1, .ref q_p1), (2, .int x2), (4, .int x4), (5, .int x5), (8, .int x8), (9, .int x9), (10, .int x10), (12, .int x12)]) hx hb dX8_meaning_240 hl (by decide) rfl (fun ls hl => ?_)
                        refine lv_iconst (v := 1) hx hb dX8_meaning_242 (by decide) ?_
                        refine lv_istore (lv' := [(9, .int 1), (11, .int 0), (7, .int (x7 &&& ((f_this_sets (Int32.toNatClampNeg (f_p1 (Int32.toNatClampNeg x6)))) ^^^ x11))), (15, .int ((f_this_sets (Int32.toNatClampNeg (f_p1 (Int32.toNatClampNeg x6)))) ^^^ x11)), (14, .int (f_this_kinds (Int32.toNatClampNeg (f_p1 (Int32.toNatClampNeg x6))))), (6, .int (x6 + x5)), (13, .int (f_p1 (Int32.toNatClampNeg x6))), (0, .ref q_this), (1, .ref q_p1), (2, .int x2), (4, .int x4), (5, .int x5), (8, .int x8), (10, .int x10), (12, .int x12)]) hx hb dX8_meaning_243 hl (by decide) rfl (fun ls hl => ?_)
                        refine lv_iconst (v := 1) hx hb dX8_meaning_245 (by decide) ?_
                        refine lv_istore (lv' := [(10, .int 1), (9, .int 1), (11, .int 0), (7, .int (x7 &&& ((f_this_sets (Int32.toNatClampNeg (f_p1 (Int32.toNatClampNeg x6)))) ^^^ x11))), (15, .int ((f_this_sets (Int32.toNatClampNeg (f_p1 (Int32.toNatClampNeg x6)))) ^^^ x11)), (14, .int (f_this_kinds (Int32.toNatClampNeg (f_p1 (Int32.toNatClampNeg x6))))), (6, .int (x6 + x5)), (13, .int (f_p1 (Int32.toNatClampNeg x6))), (0, .ref q_this), (1, .ref q_p1), (2, .int x2), (4, .int x4), (5, .int x5), (8, .int x8), (12, .int x12)]) hx hb dX8_meaning_246 hl (by decide) rfl (fun ls hl => ?_)
                        refine lv_iinc (v := (x12 + (-1))) (lv' := [(12, .int (x12 + (-1))), (10, .int 1), (9, .int 1), (11, .int 0), (7, .int (x7 &&& ((f_this_sets (Int32.toNatClampNeg (f_p1 (Int32.toNatClampNeg x6)))) ^^^ x11))), (15, .int ((f_this_sets (Int32.toNatClampNeg (f_p1 (Int32.toNatClampNeg x6)))) ^^^ x11)), (14, .int (f_this_kinds (Int32.toNatClampNeg (f_p1 (Int32.toNatClampNeg x6))))), (6, .int (x6 + x5)), (13, .int (f_p1 (Int32.toNatClampNeg x6))), (0, .ref q_this), (1, .ref q_p1), (2, .int x2), (4, .int x4), (5, .int x5), (8, .int x8)]) hx hb dX8_meaning_248 hl (k := 14) rfl (by rfl) (by decide) rfl (fun ls hl => ?_)
                        refine lv_goto (tgt := 66) hx hb dX8_meaning_251 (by decide) ?_
                        exact ih66 (x6 + x5) (x7 &&& ((f_this_sets (Int32.toNatClampNeg (f_p1 (Int32.toNatClampNeg x6)))) ^^^ x11)) x8 1 1 0 (x12 + (-1)) _ _ _ hP hD hS (lv_sub hl [9, 10, 11, 12, 13, 7, 4, 14, 2, 1, 3, 0] rfl) hf
                    · replace hf := hf.1 c15
                      refine lv_iload hx hb dX8_meaning_197 (lv_at hl 12 rfl) ?_
                      refine lv_bipush (v := 15) hx hb dX8_meaning_199 (by decide) ?_
                      refine lv_ixor hx hb dX8_meaning_201 ?_
                      refine lv_istore (lv' := [(11, .int (x11 ^^^ 15)), (14, .int (f_this_kinds (Int32.toNatClampNeg (f_p1 (Int32.toNatClampNeg x6))))), (6, .int (x6 + x5)), (13, .int (f_p1 (Int32.toNatClampNeg x6))), (0, .ref q_this), (1, .ref q_p1), (2, .int x2), (4, .int x4), (5, .int x5), (7, .int x7), (8, .int x8), (9, .int x9), (10, .int x10), (12, .int x12)]) hx hb dX8_meaning_202 hl (by decide) rfl (fun ls hl => ?_)
                      refine lv_goto (tgt := 248) hx hb dX8_meaning_204 (by decide) ?_
                      refine lv_iinc (v := (x12 + (-1))) (lv' := [(12, .int (x12 + (-1))), (11, .int (x11 ^^^ 15)), (14, .int (f_this_kinds (Int32.toNatClampNeg (f_p1 (Int32.toNatClampNeg x6))))), (6, .int (x6 + x5)), (13, .int (f_p1 (Int32.toNatClampNeg x6))), (0, .ref q_this), (1, .ref q_p1), (2, .int x2), (4, .int x4), (5, .int x5), (7, .int x7), (8, .int x8), (9, .int x9), (10, .int x10)]) hx hb dX8_meaning_248 hl (k := 13) rfl (by rfl) (by decide) rfl (fun ls hl => ?_)
                      refine lv_goto (tgt := 66) hx hb dX8_meaning_251 (by decide) ?_
                      exact ih66 (x6 + x5) x7 x8 x9 x10 (x11 ^^^ 15) (x12 + (-1)) _ _ _ hP hD hS (lv_sub hl [5, 6, 7, 8, 9, 3, 10, 11, 12, 13, 1, 0] rfl) hf
                  · replace hf := hf.2 c14
                    refine lv_bipush (v := 16) hx hb dX8_meaning_188 (by decide) ?_
                    exact z_iret hx hb hr hlocks () hf hK hP hD hS dX8_meaning_190
                · replace hf := hf.1 c13
                  refine lv_iload hx hb dX8_meaning_156 (lv_at hl 11 rfl) ?_
                  refine lv_if_ne (tgt := 164) hx hb dX8_meaning_158 (by decide) (fun c17 => ?_) (fun c17 => ?_)
                  · replace hf := hf.2 c17
                    refine lv_iconst (v := 0) hx hb dX8_meaning_164 (by decide) ?_
                    refine lv_istore (lv' := [(10, .int 0), (14, .int (f_this_kinds (Int32.toNatClampNeg (f_p1 (Int32.toNatClampNeg x6))))), (6, .int (x6 + x5)), (13, .int (f_p1 (Int32.toNatClampNeg x6))), (0, .ref q_this), (1, .ref q_p1), (2, .int x2), (4, .int x4), (5, .int x5), (7, .int x7), (8, .int x8), (9, .int x9), (11, .int x11), (12, .int x12)]) hx hb dX8_meaning_165 hl (by decide) rfl (fun ls hl => ?_)
                    refine lv_iload hx hb dX8_meaning_167 (lv_at hl 1 rfl) ?_
                    refine lv_iconst (v := 2) hx hb dX8_meaning_169 (by decide) ?_
                    refine lv_icmp_ne (tgt := 177) hx hb dX8_meaning_170 (by decide) (fun c18 => ?_) (fun c18 => ?_)
                    · replace hf := hf.2 c18
                      refine lv_iconst (v := 0) hx hb dX8_meaning_177 (by decide) ?_
                      refine lv_istore (lv' := [(8, .int 0), (10, .int 0), (14, .int (f_this_kinds (Int32.toNatClampNeg (f_p1 (Int32.toNatClampNeg x6))))), (6, .int (x6 + x5)), (13, .int (f_p1 (Int32.toNatClampNeg x6))), (0, .ref q_this), (1, .ref q_p1), (2, .int x2), (4, .int x4), (5, .int x5), (7, .int x7), (9, .int x9), (11, .int x11), (12, .int x12)]) hx hb dX8_meaning_178 hl (by decide) rfl (fun ls hl => ?_)
                      refine lv_goto (tgt := 248) hx hb dX8_meaning_180 (by decide) ?_
                      refine lv_iinc (v := (x12 + (-1))) (lv' := [(12, .int (x12 + (-1))), (8, .int 0), (10, .int 0), (14, .int (f_this_kinds (Int32.toNatClampNeg (f_p1 (Int32.toNatClampNeg x6))))), (6, .int (x6 + x5)), (13, .int (f_p1 (Int32.toNatClampNeg x6))), (0, .ref q_this), (1, .ref q_p1), (2, .int x2), (4, .int x4), (5, .int x5), (7, .int x7), (9, .int x9), (11, .int x11)]) hx hb dX8_meaning_248 hl (k := 13) rfl (by rfl) (by decide) rfl (fun ls hl => ?_)
                      refine lv_goto (tgt := 66) hx hb dX8_meaning_251 (by decide) ?_
                      exact ih66 (x6 + x5) x7 0 x9 0 x11 (x12 + (-1)) _ _ _ hP hD hS (lv_sub hl [6, 7, 8, 9, 10, 4, 11, 1, 12, 2, 13, 0] rfl) hf
                    · replace hf := hf.1 c18
                      refine lv_iconst (v := 1) hx hb dX8_meaning_173 (by decide) ?_
                      refine lv_goto (tgt := 178) hx hb dX8_meaning_174 (by decide) ?_
                      refine lv_istore (lv' := [(8, .int 1), (10, .int 0), (14, .int (f_this_kinds (Int32.toNatClampNeg (f_p1 (Int32.toNatClampNeg x6))))), (6, .int (x6 + x5)), (13, .int (f_p1 (Int32.toNatClampNeg x6))), (0, .ref q_this), (1, .ref q_p1), (2, .int x2), (4, .int x4), (5, .int x5), (7, .int x7), (9, .int x9), (11, .int x11), (12, .int x12)]) hx hb dX8_meaning_178 hl (by decide) rfl (fun ls hl => ?_)
                      refine lv_goto (tgt := 248) hx hb dX8_meaning_180 (by decide) ?_
                      refine lv_iinc (v := (x12 + (-1))) (lv' := [(12, .int (x12 + (-1))), (8, .int 1), (10, .int 0), (14, .int (f_this_kinds (Int32.toNatClampNeg (f_p1 (Int32.toNatClampNeg x6))))), (6, .int (x6 + x5)), (13, .int (f_p1 (Int32.toNatClampNeg x6))), (0, .ref q_this), (1, .ref q_p1), (2, .int x2), (4, .int x4), (5, .int x5), (7, .int x7), (9, .int x9), (11, .int x11)]) hx hb dX8_meaning_248 hl (k := 13) rfl (by rfl) (by decide) rfl (fun ls hl => ?_)
                      refine lv_goto (tgt := 66) hx hb dX8_meaning_251 (by decide) ?_
                      exact ih66 (x6 + x5) x7 1 x9 0 x11 (x12 + (-1)) _ _ _ hP hD hS (lv_sub hl [6, 7, 8, 9, 10, 4, 11, 1, 12, 2, 13, 0] rfl) hf
                  · replace hf := hf.1 c17
                    refine lv_bipush (v := 16) hx hb dX8_meaning_161 (by decide) ?_
                    exact z_iret hx hb hr hlocks () hf hK hP hD hS dX8_meaning_163
            · replace hf := hf.1 c9
              refine lv_iload hx hb dX8_meaning_124 (lv_at hl 6 rfl) ?_
              refine lv_iconst (v := 2) hx hb dX8_meaning_126 (by decide) ?_
              refine lv_icmp_ne (tgt := 248) hx hb dX8_meaning_127 (by decide) (fun c19 => ?_) (fun c19 => ?_)
              · replace hf := hf.2 c19
                refine lv_iinc (v := (x12 + (-1))) (lv' := [(12, .int (x12 + (-1))), (14, .int (f_this_kinds (Int32.toNatClampNeg (f_p1 (Int32.toNatClampNeg x6))))), (6, .int (x6 + x5)), (13, .int (f_p1 (Int32.toNatClampNeg x6))), (0, .ref q_this), (1, .ref q_p1), (2, .int x2), (4, .int x4), (5, .int x5), (7, .int x7), (8, .int x8), (9, .int x9), (10, .int x10), (11, .int x11)]) hx hb dX8_meaning_248 hl (k := 13) rfl (by rfl) (by decide) rfl (fun ls hl => ?_)
                refine lv_goto (tgt := 66) hx hb dX8_meaning_251 (by decide) ?_
                exact ih66 (x6 + x5) x7 x8 x9 x10 x11 (x12 + (-1)) _ _ _ hP hD hS (lv_sub hl [4, 5, 6, 7, 8, 2, 9, 10, 11, 12, 13, 0] rfl) hf
              · replace hf := hf.1 c19
                refine lv_iload hx hb dX8_meaning_130 (lv_at hl 10 rfl) ?_
                refine lv_if_eq (tgt := 248) hx hb dX8_meaning_132 (by decide) (fun c20 => ?_) (fun c20 => ?_)
                · replace hf := hf.1 c20
                  refine lv_iinc (v := (x12 + (-1))) (lv' := [(12, .int (x12 + (-1))), (14, .int (f_this_kinds (Int32.toNatClampNeg (f_p1 (Int32.toNatClampNeg x6))))), (6, .int (x6 + x5)), (13, .int (f_p1 (Int32.toNatClampNeg x6))), (0, .ref q_this), (1, .ref q_p1), (2, .int x2), (4, .int x4), (5, .int x5), (7, .int x7), (8, .int x8), (9, .int x9), (10, .int x10), (11, .int x11)]) hx hb dX8_meaning_248 hl (k := 13) rfl (by rfl) (by decide) rfl (fun ls hl => ?_)
                  refine lv_goto (tgt := 66) hx hb dX8_meaning_251 (by decide) ?_
                  exact ih66 (x6 + x5) x7 x8 x9 x10 x11 (x12 + (-1)) _ _ _ hP hD hS (lv_sub hl [4, 5, 6, 7, 8, 2, 9, 10, 11, 12, 13, 0] rfl) hf
                · replace hf := hf.2 c20
                  refine lv_iload hx hb dX8_meaning_135 (lv_at hl 2 rfl) ?_
                  refine lv_iconst (v := (-1)) hx hb dX8_meaning_137 (by decide) ?_
                  refine lv_icmp_eq (tgt := 248) hx hb dX8_meaning_138 (by decide) (fun c21 => ?_) (fun c21 => ?_)
                  · replace hf := hf.1 c21
                    refine lv_iinc (v := (x12 + (-1))) (lv' := [(12, .int (x12 + (-1))), (14, .int (f_this_kinds (Int32.toNatClampNeg (f_p1 (Int32.toNatClampNeg x6))))), (6, .int (x6 + x5)), (13, .int (f_p1 (Int32.toNatClampNeg x6))), (0, .ref q_this), (1, .ref q_p1), (2, .int x2), (4, .int x4), (5, .int x5), (7, .int x7), (8, .int x8), (9, .int x9), (10, .int x10), (11, .int x11)]) hx hb dX8_meaning_248 hl (k := 13) rfl (by rfl) (by decide) rfl (fun ls hl => ?_)
                    refine lv_goto (tgt := 66) hx hb dX8_meaning_251 (by decide) ?_
                    exact ih66 (x6 + x5) x7 x8 x9 x10 x11 (x12 + (-1)) _ _ _ hP hD hS (lv_sub hl [4, 5, 6, 7, 8, 2, 9, 10, 11, 12, 13, 0] rfl) hf
                  · replace hf := hf.2 c21
                    refine lv_goto (tgt := 254) hx hb dX8_meaning_141 (by decide) ?_
                    exact E254 x7 x10 _ _ _ hP hD hS (lv_sub hl [8, 11] rfl) hf
        · replace hf := hf.2 c3
          refine lv_iload hx hb dX8_meaning_90 (lv_at hl 0 rfl) ?_
          refine lv_iload_n hx hb dX8_meaning_92 rfl (lv_at hl 4 rfl) ?_
          refine lv_isub hx hb dX8_meaning_93 ?_
          refine lv_istore (lv' := [(6, .int ((x6 + x5) - x2)), (13, .int (f_p1 (Int32.toNatClampNeg x6))), (0, .ref q_this), (1, .ref q_p1), (2, .int x2), (4, .int x4), (5, .int x5), (7, .int x7), (8, .int x8), (9, .int x9), (10, .int x10), (11, .int x11), (12, .int x12)]) hx hb dX8_meaning_94 hl (by decide) rfl (fun ls hl => ?_)
          refine lv_aload_n hx hb dX8_meaning_96 rfl (lv_at hl 2 rfl) ?_
          refine lv_iload hx hb dX8_meaning_97 (lv_at hl 1 rfl) ?_
          refine z_Vi (n := 1) (As := [.int (f_p1 (Int32.toNatClampNeg x6))]) (rest := []) ⟨hx, hb, hml, hown, hts⟩ (c_X8_hasWord l dC dI cI cC cS q_this q_this_kinds q_this_sets q_this_weights q_this_stocks q_this_readers q_this_eighths q_this_wishes _ v_this_words v_this_roads (f_p1 (Int32.toNatClampNeg x6)) N _  hf) gX8_meaning_X8_hasWord rfl rfl rfl (by decide +kernel) ⟨Nat.le_of_ble_eq_true rfl, Nat.le_of_ble_eq_true rfl⟩ hK hP hD hS hA 0 7 rfl rfl rfl hl.1 rfl (Nat.le_of_ble_eq_true rfl) dX8_meaning_99 ⟨Nat.zero_le _, Nat.zero_le _⟩ [0] [1, 2, 3] (([(q_this_kinds, .inl (cI, 6, .inl f_this_kinds)), (q_this_sets, .inl (cI, 6, .inl f_this_sets)), (q_p1, .inl (cI, n_p1, .inl f_p1))] : va_W)) rfl rfl (by decide) (by decide) (by decide) (fun u => (zW_X8_meaning cI cC cS q_this q_this_kinds q_this_sets q_p1 q_this_weights q_this_stocks q_this_readers q_this_eighths q_this_wishes n_p1 v_this_words v_this_roads f_this_kinds f_this_sets f_p1)) [3, 0, 1, 2] (fun u => rfl) (by decide) (fun r22 u22 H locs hf hP hD hS => ?_)
          have hP : va_P (dC, dI) vwCl (zW_X8_meaning cI cC cS q_this q_this_kinds q_this_sets q_p1 q_this_weights q_this_stocks q_this_readers q_this_eighths q_this_wishes n_p1 v_this_words v_this_roads f_this_kinds f_this_sets f_p1) H := hP
          have hD : va_D A (zW_X8_meaning cI cC cS q_this q_this_kinds q_this_sets q_p1 q_this_weights q_this_stocks q_this_readers q_this_eighths q_this_wishes n_p1 v_this_words v_this_roads f_this_kinds f_this_sets f_p1) := hD
          refine lv_if_eq (tgt := 115) hx hb dX8_meaning_102 (by decide) (fun c23 => ?_) (fun c23 => ?_)
          · replace hf := hf.1 c23
            refine lv_iconst (v := 4) hx hb dX8_meaning_115 (by decide) ?_
            refine lv_istore (lv' := [(14, .int 4), (6, .int ((x6 + x5) - x2)), (13, .int (f_p1 (Int32.toNatClampNeg x6))), (0, .ref q_this), (1, .ref q_p1), (2, .int x2), (4, .int x4), (5, .int x5), (7, .int x7), (8, .int x8), (9, .int x9), (10, .int x10), (11, .int x11), (12, .int x12)]) hx hb dX8_meaning_116 hl (by decide) rfl (fun ls hl => ?_)
            refine lv_iload hx hb dX8_meaning_118 (lv_at hl 0 rfl) ?_
            refine lv_iconst (v := 4) hx hb dX8_meaning_120 (by decide) ?_
            refine lv_icmp_ne (tgt := 144) hx hb dX8_meaning_121 (by decide) (fun c9 => absurd c9 (by decide)) (fun _ => ?_)
            refine lv_iload hx hb dX8_meaning_124 (lv_at hl 6 rfl) ?_
            refine lv_iconst (v := 2) hx hb dX8_meaning_126 (by decide) ?_
            refine lv_icmp_ne (tgt := 248) hx hb dX8_meaning_127 (by decide) (fun c24 => ?_) (fun c24 => ?_)
            · replace hf := hf.2 c24
              refine lv_iinc (v := (x12 + (-1))) (lv' := [(12, .int (x12 + (-1))), (14, .int 4), (6, .int ((x6 + x5) - x2)), (13, .int (f_p1 (Int32.toNatClampNeg x6))), (0, .ref q_this), (1, .ref q_p1), (2, .int x2), (4, .int x4), (5, .int x5), (7, .int x7), (8, .int x8), (9, .int x9), (10, .int x10), (11, .int x11)]) hx hb dX8_meaning_248 hl (k := 13) rfl (by rfl) (by decide) rfl (fun ls hl => ?_)
              refine lv_goto (tgt := 66) hx hb dX8_meaning_251 (by decide) ?_
              exact ih66 ((x6 + x5) - x2) x7 x8 x9 x10 x11 (x12 + (-1)) _ _ _ hP hD hS (lv_sub hl [4, 5, 6, 7, 8, 2, 9, 10, 11, 12, 13, 0] rfl) hf
            · replace hf := hf.1 c24
              refine lv_iload hx hb dX8_meaning_130 (lv_at hl 10 rfl) ?_
              refine lv_if_eq (tgt := 248) hx hb dX8_meaning_132 (by decide) (fun c25 => ?_) (fun c25 => ?_)
              · replace hf := hf.1 c25
                refine lv_iinc (v := (x12 + (-1))) (lv' := [(12, .int (x12 + (-1))), (14, .int 4), (6, .int ((x6 + x5) - x2)), (13, .int (f_p1 (Int32.toNatClampNeg x6))), (0, .ref q_this), (1, .ref q_p1), (2, .int x2), (4, .int x4), (5, .int x5), (7, .int x7), (8, .int x8), (9, .int x9), (10, .int x10), (11, .int x11)]) hx hb dX8_meaning_248 hl (k := 13) rfl (by rfl) (by decide) rfl (fun ls hl => ?_)
                refine lv_goto (tgt := 66) hx hb dX8_meaning_251 (by decide) ?_
                exact ih66 ((x6 + x5) - x2) x7 x8 x9 x10 x11 (x12 + (-1)) _ _ _ hP hD hS (lv_sub hl [4, 5, 6, 7, 8, 2, 9, 10, 11, 12, 13, 0] rfl) hf
              · replace hf := hf.2 c25
                refine lv_iload hx hb dX8_meaning_135 (lv_at hl 2 rfl) ?_
                refine lv_iconst (v := (-1)) hx hb dX8_meaning_137 (by decide) ?_
                refine lv_icmp_eq (tgt := 248) hx hb dX8_meaning_138 (by decide) (fun c26 => ?_) (fun c26 => ?_)
                · replace hf := hf.1 c26
                  refine lv_iinc (v := (x12 + (-1))) (lv' := [(12, .int (x12 + (-1))), (14, .int 4), (6, .int ((x6 + x5) - x2)), (13, .int (f_p1 (Int32.toNatClampNeg x6))), (0, .ref q_this), (1, .ref q_p1), (2, .int x2), (4, .int x4), (5, .int x5), (7, .int x7), (8, .int x8), (9, .int x9), (10, .int x10), (11, .int x11)]) hx hb dX8_meaning_248 hl (k := 13) rfl (by rfl) (by decide) rfl (fun ls hl => ?_)
                  refine lv_goto (tgt := 66) hx hb dX8_meaning_251 (by decide) ?_
                  exact ih66 ((x6 + x5) - x2) x7 x8 x9 x10 x11 (x12 + (-1)) _ _ _ hP hD hS (lv_sub hl [4, 5, 6, 7, 8, 2, 9, 10, 11, 12, 13, 0] rfl) hf
                · replace hf := hf.2 c26
                  refine lv_goto (tgt := 254) hx hb dX8_meaning_141 (by decide) ?_
                  exact E254 x7 x10 _ _ _ hP hD hS (lv_sub hl [8, 11] rfl) hf
          · replace hf := hf.2 c23
            refine lv_aload_n hx hb dX8_meaning_105 rfl (lv_at hl 2 rfl) ?_
            refine va_get (D := (dC, dI)) (ci := 7) (v := .ref q_this_kinds) (C := RX8) (T := TX8) (N := 9) hx hb hts inX8 hown hK hP 0 rfl rfl 0 (by decide) lk1 (fun _ h9 => h9) rfl dX8_meaning_106 ?_
            refine lv_iload hx hb dX8_meaning_109 (lv_at hl 1 rfl) ?_
            refine va_iald hx hb hK hP 1 0 rfl rfl hf.1 dX8_meaning_111 ?_
            replace hf := hf.2
            refine lv_goto (tgt := 116) hx hb dX8_meaning_112 (by decide) ?_
            refine lv_istore (lv' := [(14, .int (f_this_kinds (Int32.toNatClampNeg (f_p1 (Int32.toNatClampNeg x6))))), (6, .int ((x6 + x5) - x2)), (13, .int (f_p1 (Int32.toNatClampNeg x6))), (0, .ref q_this), (1, .ref q_p1), (2, .int x2), (4, .int x4), (5, .int x5), (7, .int x7), (8, .int x8), (9, .int x9), (10, .int x10), (11, .int x11), (12, .int x12)]) hx hb dX8_meaning_116 hl (by decide) rfl (fun ls hl => ?_)
            refine lv_iload hx hb dX8_meaning_118 (lv_at hl 0 rfl) ?_
            refine lv_iconst (v := 4) hx hb dX8_meaning_120 (by decide) ?_
            refine lv_icmp_ne (tgt := 144) hx hb dX8_meaning_121 (by decide) (fun c27 => ?_) (fun c27 => ?_)
            · replace hf := hf.2 c27
              refine lv_iload hx hb dX8_meaning_144 (lv_at hl 0 rfl) ?_
              refine lv_iconst (v := 2) hx hb dX8_meaning_146 (by decide) ?_
              refine lv_icmp_eq (tgt := 156) hx hb dX8_meaning_147 (by decide) (fun c28 => ?_) (fun c28 => ?_)
              · replace hf := hf.1 c28
                refine lv_iload hx hb dX8_meaning_156 (lv_at hl 11 rfl) ?_
                refine lv_if_ne (tgt := 164) hx hb dX8_meaning_158 (by decide) (fun c29 => ?_) (fun c29 => ?_)
                · replace hf := hf.2 c29
                  refine lv_iconst (v := 0) hx hb dX8_meaning_164 (by decide) ?_
                  refine lv_istore (lv' := [(10, .int 0), (14, .int (f_this_kinds (Int32.toNatClampNeg (f_p1 (Int32.toNatClampNeg x6))))), (6, .int ((x6 + x5) - x2)), (13, .int (f_p1 (Int32.toNatClampNeg x6))), (0, .ref q_this), (1, .ref q_p1), (2, .int x2), (4, .int x4), (5, .int x5), (7, .int x7), (8, .int x8), (9, .int x9), (11, .int x11), (12, .int x12)]) hx hb dX8_meaning_165 hl (by decide) rfl (fun ls hl => ?_)
                  refine lv_iload hx hb dX8_meaning_167 (lv_at hl 1 rfl) ?_
                  refine lv_iconst (v := 2) hx hb dX8_meaning_169 (by decide) ?_
                  refine lv_icmp_ne (tgt := 177) hx hb dX8_meaning_170 (by decide) (fun c30 => ?_) (fun c30 => ?_)
                  · replace hf := hf.2 c30
                    refine lv_iconst (v := 0) hx hb dX8_meaning_177 (by decide) ?_
                    refine lv_istore (lv' := [(8, .int 0), (10, .int 0), (14, .int (f_this_kinds (Int32.toNatClampNeg (f_p1 (Int32.toNatClampNeg x6))))), (6, .int ((x6 + x5) - x2)), (13, .int (f_p1 (Int32.toNatClampNeg x6))), (0, .ref q_this), (1, .ref q_p1), (2, .int x2), (4, .int x4), (5, .int x5), (7, .int x7), (9, .int x9), (11, .int x11), (12, .int x12)]) hx hb dX8_meaning_178 hl (by decide) rfl (fun ls hl => ?_)
                    refine lv_goto (tgt := 248) hx hb dX8_meaning_180 (by decide) ?_
                    refine lv_iinc (v := (x12 + (-1))) (lv' := [(12, .int (x12 + (-1))), (8, .int 0), (10, .int 0), (14, .int (f_this_kinds (Int32.toNatClampNeg (f_p1 (Int32.toNatClampNeg x6))))), (6, .int ((x6 + x5) - x2)), (13, .int (f_p1 (Int32.toNatClampNeg x6))), (0, .ref q_this), (1, .ref q_p1), (2, .int x2), (4, .int x4), (5, .int x5), (7, .int x7), (9, .int x9), (11, .int x11)]) hx hb dX8_meaning_248 hl (k := 13) rfl (by rfl) (by decide) rfl (fun ls hl => ?_)
                    refine lv_goto (tgt := 66) hx hb dX8_meaning_251 (by decide) ?_
                    exact ih66 ((x6 + x5) - x2) x7 0 x9 0 x11 (x12 + (-1)) _ _ _ hP hD hS (lv_sub hl [6, 7, 8, 9, 10, 4, 11, 1, 12, 2, 13, 0] rfl) hf
                  · replace hf := hf.1 c30
                    refine lv_iconst (v := 1) hx hb dX8_meaning_173 (by decide) ?_
                    refine lv_goto (tgt := 178) hx hb dX8_meaning_174 (by decide) ?_
                    refine lv_istore (lv' := [(8, .int 1), (10, .int 0), (14, .int (f_this_kinds (Int32.toNatClampNeg (f_p1 (Int32.toNatClampNeg x6))))), (6, .int ((x6 + x5) - x2)), (13, .int (f_p1 (Int32.toNatClampNeg x6))), (0, .ref q_this), (1, .ref q_p1), (2, .int x2), (4, .int x4), (5, .int x5), (7, .int x7), (9, .int x9), (11, .int x11), (12, .int x12)]) hx hb dX8_meaning_178 hl (by decide) rfl (fun ls hl => ?_)
                    refine lv_goto (tgt := 248) hx hb dX8_meaning_180 (by decide) ?_
                    refine lv_iinc (v := (x12 + (-1))) (lv' := [(12, .int (x12 + (-1))), (8, .int 1), (10, .int 0), (14, .int (f_this_kinds (Int32.toNatClampNeg (f_p1 (Int32.toNatClampNeg x6))))), (6, .int ((x6 + x5) - x2)), (13, .int (f_p1 (Int32.toNatClampNeg x6))), (0, .ref q_this), (1, .ref q_p1), (2, .int x2), (4, .int x4), (5, .int x5), (7, .int x7), (9, .int x9), (11, .int x11)]) hx hb dX8_meaning_248 hl (k := 13) rfl (by rfl) (by decide) rfl (fun ls hl => ?_)
                    refine lv_goto (tgt := 66) hx hb dX8_meaning_251 (by decide) ?_
                    exact ih66 ((x6 + x5) - x2) x7 1 x9 0 x11 (x12 + (-1)) _ _ _ hP hD hS (lv_sub hl [6, 7, 8, 9, 10, 4, 11, 1, 12, 2, 13, 0] rfl) hf
                · replace hf := hf.1 c29
                  refine lv_bipush (v := 16) hx hb dX8_meaning_161 (by decide) ?_
                  exact z_iret hx hb hr hlocks () hf hK hP hD hS dX8_meaning_163
              · replace hf := hf.2 c28
                refine lv_iload hx hb dX8_meaning_150 (lv_at hl 0 rfl) ?_
                refine lv_iconst (v := 3) hx hb dX8_meaning_152 (by decide) ?_
                refine lv_icmp_ne (tgt := 183) hx hb dX8_meaning_153 (by decide) (fun c31 => ?_) (fun c31 => ?_)
                · replace hf := hf.2 c31
                  refine lv_iload hx hb dX8_meaning_183 (lv_at hl 11 rfl) ?_
                  refine lv_if_eq (tgt := 191) hx hb dX8_meaning_185 (by decide) (fun c32 => ?_) (fun c32 => ?_)
                  · replace hf := hf.1 c32
                    refine lv_iload hx hb dX8_meaning_191 (lv_at hl 0 rfl) ?_
                    refine lv_iconst (v := 1) hx hb dX8_meaning_193 (by decide) ?_
                    refine lv_icmp_ne (tgt := 207) hx hb dX8_meaning_194 (by decide) (fun c33 => ?_) (fun c33 => ?_)
                    · replace hf := hf.2 c33
                      refine lv_aload_n hx hb dX8_meaning_207 rfl (lv_at hl 3 rfl) ?_
                      refine va_get (D := (dC, dI)) (ci := 7) (v := .ref q_this_sets) (C := RX8) (T := TX8) (N := 9) hx hb hts inX8 hown hK hP 0 rfl rfl 1 (by decide) lk2 (fun _ h9 => h9) rfl dX8_meaning_208 ?_
                      refine lv_iload hx hb dX8_meaning_211 (lv_at hl 2 rfl) ?_
                      refine va_iald hx hb hK hP 2 0 rfl rfl hf.1 dX8_meaning_213 ?_
                      replace hf := hf.2
                      refine lv_iload hx hb dX8_meaning_214 (lv_at hl 12 rfl) ?_
                      refine lv_ixor hx hb dX8_meaning_216 ?_
                      refine lv_istore (lv' := [(15, .int ((f_this_sets (Int32.toNatClampNeg (f_p1 (Int32.toNatClampNeg x6)))) ^^^ x11)), (14, .int (f_this_kinds (Int32.toNatClampNeg (f_p1 (Int32.toNatClampNeg x6))))), (6, .int ((x6 + x5) - x2)), (13, .int (f_p1 (Int32.toNatClampNeg x6))), (0, .ref q_this), (1, .ref q_p1), (2, .int x2), (4, .int x4), (5, .int x5), (7, .int x7), (8, .int x8), (9, .int x9), (10, .int x10), (11, .int x11), (12, .int x12)]) hx hb dX8_meaning_217 hl (by decide) rfl (fun ls hl => ?_)
                      refine lv_iload hx hb dX8_meaning_219 (lv_at hl 10 rfl) ?_
                      refine lv_if_eq (tgt := 232) hx hb dX8_meaning_221 (by decide) (fun c34 => ?_) (fun c34 => ?_)
                      · replace hf := hf.1 c34
                        refine lv_iload hx hb dX8_meaning_232 (lv_at hl 9 rfl) ?_
                        refine lv_iload hx hb dX8_meaning_234 (lv_at hl 0 rfl) ?_
                        refine lv_ior hx hb dX8_meaning_236 ?_
                        refine lv_istore (lv' := [(7, .int (x7 ||| ((f_this_sets (Int32.toNatClampNeg (f_p1 (Int32.toNatClampNeg x6)))) ^^^ x11))), (15, .int ((f_this_sets (Int32.toNatClampNeg (f_p1 (Int32.toNatClampNeg x6)))) ^^^ x11)), (14, .int (f_this_kinds (Int32.toNatClampNeg (f_p1 (Int32.toNatClampNeg x6))))), (6, .int ((x6 + x5) - x2)), (13, .int (f_p1 (Int32.toNatClampNeg x6))), (0, .ref q_this), (1, .ref q_p1), (2, .int x2), (4, .int x4), (5, .int x5), (8, .int x8), (9, .int x9), (10, .int x10), (11, .int x11), (12, .int x12)]) hx hb dX8_meaning_237 hl (by decide) rfl (fun ls hl => ?_)
                        refine lv_iconst (v := 0) hx hb dX8_meaning_239 (by decide) ?_
                        refine lv_istore (lv' := [(11, .int 0), (7, .int (x7 ||| ((f_this_sets (Int32.toNatClampNeg (f_p1 (Int32.toNatClampNeg x6)))) ^^^ x11))), (15, .int ((f_this_sets (Int32.toNatClampNeg (f_p1 (Int32.toNatClampNeg x6)))) ^^^ x11)), (14, .int (f_this_kinds (Int32.toNatClampNeg (f_p1 (Int32.toNatClampNeg x6))))), (6, .int ((x6 + x5) - x2)), (13, .int (f_p1 (Int32.toNatClampNeg x6))), (0, .ref q_this), (1, .ref q_p1), (2, .int x2), (4, .int x4), (5, .int x5), (8, .int x8), (9, .int x9), (10, .int x10), (12, .int x12)]) hx hb dX8_meaning_240 hl (by decide) rfl (fun ls hl => ?_)
                        refine lv_iconst (v := 1) hx hb dX8_meaning_242 (by decide) ?_
                        refine lv_istore (lv' := [(9, .int 1), (11, .int 0), (7, .int (x7 ||| ((f_this_sets (Int32.toNatClampNeg (f_p1 (Int32.toNatClampNeg x6)))) ^^^ x11))), (15, .int ((f_this_sets (Int32.toNatClampNeg (f_p1 (Int32.toNatClampNeg x6)))) ^^^ x11)), (14, .int (f_this_kinds (Int32.toNatClampNeg (f_p1 (Int32.toNatClampNeg x6))))), (6, .int ((x6 + x5) - x2)), (13, .int (f_p1 (Int32.toNatClampNeg x6))), (0, .ref q_this), (1, .ref q_p1), (2, .int x2), (4, .int x4), (5, .int x5), (8, .int x8), (10, .int x10), (12, .int x12)]) hx hb dX8_meaning_243 hl (by decide) rfl (fun ls hl => ?_)
                        refine lv_iconst (v := 1) hx hb dX8_meaning_245 (by decide) ?_
                        refine lv_istore (lv' := [(10, .int 1), (9, .int 1), (11, .int 0), (7, .int (x7 ||| ((f_this_sets (Int32.toNatClampNeg (f_p1 (Int32.toNatClampNeg x6)))) ^^^ x11))), (15, .int ((f_this_sets (Int32.toNatClampNeg (f_p1 (Int32.toNatClampNeg x6)))) ^^^ x11)), (14, .int (f_this_kinds (Int32.toNatClampNeg (f_p1 (Int32.toNatClampNeg x6))))), (6, .int ((x6 + x5) - x2)), (13, .int (f_p1 (Int32.toNatClampNeg x6))), (0, .ref q_this), (1, .ref q_p1), (2, .int x2), (4, .int x4), (5, .int x5), (8, .int x8), (12, .int x12)]) hx hb dX8_meaning_246 hl (by decide) rfl (fun ls hl => ?_)
                        refine lv_iinc (v := (x12 + (-1))) (lv' := [(12, .int (x12 + (-1))), (10, .int 1), (9, .int 1), (11, .int 0), (7, .int (x7 ||| ((f_this_sets (Int32.toNatClampNeg (f_p1 (Int32.toNatClampNeg x6)))) ^^^ x11))), (15, .int ((f_this_sets (Int32.toNatClampNeg (f_p1 (Int32.toNatClampNeg x6)))) ^^^ x11)), (14, .int (f_this_kinds (Int32.toNatClampNeg (f_p1 (Int32.toNatClampNeg x6))))), (6, .int ((x6 + x5) - x2)), (13, .int (f_p1 (Int32.toNatClampNeg x6))), (0, .ref q_this), (1, .ref q_p1), (2, .int x2), (4, .int x4), (5, .int x5), (8, .int x8)]) hx hb dX8_meaning_248 hl (k := 14) rfl (by rfl) (by decide) rfl (fun ls hl => ?_)
                        refine lv_goto (tgt := 66) hx hb dX8_meaning_251 (by decide) ?_
                        exact ih66 ((x6 + x5) - x2) (x7 ||| ((f_this_sets (Int32.toNatClampNeg (f_p1 (Int32.toNatClampNeg x6)))) ^^^ x11)) x8 1 1 0 (x12 + (-1)) _ _ _ hP hD hS (lv_sub hl [9, 10, 11, 12, 13, 7, 4, 14, 2, 1, 3, 0] rfl) hf
                      · replace hf := hf.2 c34
                        refine lv_iload hx hb dX8_meaning_224 (lv_at hl 9 rfl) ?_
                        refine lv_iload hx hb dX8_meaning_226 (lv_at hl 0 rfl) ?_
                        refine lv_iand hx hb dX8_meaning_228 ?_
                        refine lv_goto (tgt := 237) hx hb dX8_meaning_229 (by decide) ?_
                        refine lv_istore (lv' := [(7, .int (x7 &&& ((f_this_sets (Int32.toNatClampNeg (f_p1 (Int32.toNatClampNeg x6)))) ^^^ x11))), (15, .int ((f_this_sets (Int32.toNatClampNeg (f_p1 (Int32.toNatClampNeg x6)))) ^^^ x11)), (14, .int (f_this_kinds (Int32.toNatClampNeg (f_p1 (Int32.toNatClampNeg x6))))), (6, .int ((x6 + x5) - x2)), (13, .int (f_p1 (Int32.toNatClampNeg x6))), (0, .ref q_this), (1, .ref q_p1), (2, .int x2), (4, .int x4), (5, .int x5), (8, .int x8), (9, .int x9), (10, .int x10), (11, .int x11), (12, .int x12)]) hx hb dX8_meaning_237 hl (by decide) rfl (fun ls hl => ?_)
                        refine lv_iconst (v := 0) hx hb dX8_meaning_239 (by decide) ?_
                        refine lv_istore (lv' := [(11, .int 0), (7, .int (x7 &&& ((f_this_sets (Int32.toNatClampNeg (f_p1 (Int32.toNatClampNeg x6)))) ^^^ x11))), (15, .int ((f_this_sets (Int32.toNatClampNeg (f_p1 (Int32.toNatClampNeg x6)))) ^^^ x11)), (14, .int (f_this_kinds (Int32.toNatClampNeg (f_p1 (Int32.toNatClampNeg x6))))), (6, .int ((x6 + x5) - x2)), (13, .int (f_p1 (Int32.toNatClampNeg x6))), (0, .ref q_this), (1, .ref q_p1), (2, .int x2), (4, .int x4), (5, .int x5), (8, .int x8), (9, .int x9), (10, .int x10), (12, .int x12)]) hx hb dX8_meaning_240 hl (by decide) rfl (fun ls hl => ?_)
                        refine lv_iconst (v := 1) hx hb dX8_meaning_242 (by decide) ?_
                        refine lv_istore (lv' := [(9, .int 1), (11, .int 0), (7, .int (x7 &&& ((f_this_sets (Int32.toNatClampNeg (f_p1 (Int32.toNatClampNeg x6)))) ^^^ x11))), (15, .int ((f_this_sets (Int32.toNatClampNeg (f_p1 (Int32.toNatClampNeg x6)))) ^^^ x11)), (14, .int (f_this_kinds (Int32.toNatClampNeg (f_p1 (Int32.toNatClampNeg x6))))), (6, .int ((x6 + x5) - x2)), (13, .int (f_p1 (Int32.toNatClampNeg x6))), (0, .ref q_this), (1, .ref q_p1), (2, .int x2), (4, .int x4), (5, .int x5), (8, .int x8), (10, .int x10), (12, .int x12)]) hx hb dX8_meaning_243 hl (by decide) rfl (fun ls hl => ?_)
                        refine lv_iconst (v := 1) hx hb dX8_meaning_245 (by decide) ?_
                        refine lv_istore (lv' := [(10, .int 1), (9, .int 1), (11, .int 0), (7, .int (x7 &&& ((f_this_sets (Int32.toNatClampNeg (f_p1 (Int32.toNatClampNeg x6)))) ^^^ x11))), (15, .int ((f_this_sets (Int32.toNatClampNeg (f_p1 (Int32.toNatClampNeg x6)))) ^^^ x11)), (14, .int (f_this_kinds (Int32.toNatClampNeg (f_p1 (Int32.toNatClampNeg x6))))), (6, .int ((x6 + x5) - x2)), (13, .int (f_p1 (Int32.toNatClampNeg x6))), (0, .ref q_this), (1, .ref q_p1), (2, .int x2), (4, .int x4), (5, .int x5), (8, .int x8), (12, .int x12)]) hx hb dX8_meaning_246 hl (by decide) rfl (fun ls hl => ?_)
                        refine lv_iinc (v := (x12 + (-1))) (lv' := [(12, .int (x12 + (-1))), (10, .int 1), (9, .int 1), (11, .int 0), (7, .int (x7 &&& ((f_this_sets (Int32.toNatClampNeg (f_p1 (Int32.toNatClampNeg x6)))) ^^^ x11))), (15, .int ((f_this_sets (Int32.toNatClampNeg (f_p1 (Int32.toNatClampNeg x6)))) ^^^ x11)), (14, .int (f_this_kinds (Int32.toNatClampNeg (f_p1 (Int32.toNatClampNeg x6))))), (6, .int ((x6 + x5) - x2)), (13, .int (f_p1 (Int32.toNatClampNeg x6))), (0, .ref q_this), (1, .ref q_p1), (2, .int x2), (4, .int x4), (5, .int x5), (8, .int x8)]) hx hb dX8_meaning_248 hl (k := 14) rfl (by rfl) (by decide) rfl (fun ls hl => ?_)
                        refine lv_goto (tgt := 66) hx hb dX8_meaning_251 (by decide) ?_
                        exact ih66 ((x6 + x5) - x2) (x7 &&& ((f_this_sets (Int32.toNatClampNeg (f_p1 (Int32.toNatClampNeg x6)))) ^^^ x11)) x8 1 1 0 (x12 + (-1)) _ _ _ hP hD hS (lv_sub hl [9, 10, 11, 12, 13, 7, 4, 14, 2, 1, 3, 0] rfl) hf
                    · replace hf := hf.1 c33
                      refine lv_iload hx hb dX8_meaning_197 (lv_at hl 12 rfl) ?_
                      refine lv_bipush (v := 15) hx hb dX8_meaning_199 (by decide) ?_
                      refine lv_ixor hx hb dX8_meaning_201 ?_
                      refine lv_istore (lv' := [(11, .int (x11 ^^^ 15)), (14, .int (f_this_kinds (Int32.toNatClampNeg (f_p1 (Int32.toNatClampNeg x6))))), (6, .int ((x6 + x5) - x2)), (13, .int (f_p1 (Int32.toNatClampNeg x6))), (0, .ref q_this), (1, .ref q_p1), (2, .int x2), (4, .int x4), (5, .int x5), (7, .int x7), (8, .int x8), (9, .int x9), (10, .int x10), (12, .int x12)]) hx hb dX8_meaning_202 hl (by decide) rfl (fun ls hl => ?_)
                      refine lv_goto (tgt := 248) hx hb dX8_meaning_204 (by decide) ?_
                      refine lv_iinc (v := (x12 + (-1))) (lv' := [(12, .int (x12 + (-1))), (11, .int (x11 ^^^ 15)), (14, .int (f_this_kinds (Int32.toNatClampNeg (f_p1 (Int32.toNatClampNeg x6))))), (6, .int ((x6 + x5) - x2)), (13, .int (f_p1 (Int32.toNatClampNeg x6))), (0, .ref q_this), (1, .ref q_p1), (2, .int x2), (4, .int x4), (5, .int x5), (7, .int x7), (8, .int x8), (9, .int x9), (10, .int x10)]) hx hb dX8_meaning_248 hl (k := 13) rfl (by rfl) (by decide) rfl (fun ls hl => ?_)
                      refine lv_goto (tgt := 66) hx hb dX8_meaning_251 (by decide) ?_
                      exact ih66 ((x6 + x5) - x2) x7 x8 x9 x10 (x11 ^^^ 15) (x12 + (-1)) _ _ _ hP hD hS (lv_sub hl [5, 6, 7, 8, 9, 3, 10, 11, 12, 13, 1, 0] rfl) hf
                  · replace hf := hf.2 c32
                    refine lv_bipush (v := 16) hx hb dX8_meaning_188 (by decide) ?_
                    exact z_iret hx hb hr hlocks () hf hK hP hD hS dX8_meaning_190
                · replace hf := hf.1 c31
                  refine lv_iload hx hb dX8_meaning_156 (lv_at hl 11 rfl) ?_
                  refine lv_if_ne (tgt := 164) hx hb dX8_meaning_158 (by decide) (fun c35 => ?_) (fun c35 => ?_)
                  · replace hf := hf.2 c35
                    refine lv_iconst (v := 0) hx hb dX8_meaning_164 (by decide) ?_
                    refine lv_istore (lv' := [(10, .int 0), (14, .int (f_this_kinds (Int32.toNatClampNeg (f_p1 (Int32.toNatClampNeg x6))))), (6, .int ((x6 + x5) - x2)), (13, .int (f_p1 (Int32.toNatClampNeg x6))), (0, .ref q_this), (1, .ref q_p1), (2, .int x2), (4, .int x4), (5, .int x5), (7, .int x7), (8, .int x8), (9, .int x9), (11, .int x11), (12, .int x12)]) hx hb dX8_meaning_165 hl (by decide) rfl (fun ls hl => ?_)
                    refine lv_iload hx hb dX8_meaning_167 (lv_at hl 1 rfl) ?_
                    refine lv_iconst (v := 2) hx hb dX8_meaning_169 (by decide) ?_
                    refine lv_icmp_ne (tgt := 177) hx hb dX8_meaning_170 (by decide) (fun c36 => ?_) (fun c36 => ?_)
                    · replace hf := hf.2 c36
                      refine lv_iconst (v := 0) hx hb dX8_meaning_177 (by decide) ?_
                      refine lv_istore (lv' := [(8, .int 0), (10, .int 0), (14, .int (f_this_kinds (Int32.toNatClampNeg (f_p1 (Int32.toNatClampNeg x6))))), (6, .int ((x6 + x5) - x2)), (13, .int (f_p1 (Int32.toNatClampNeg x6))), (0, .ref q_this), (1, .ref q_p1), (2, .int x2), (4, .int x4), (5, .int x5), (7, .int x7), (9, .int x9), (11, .int x11), (12, .int x12)]) hx hb dX8_meaning_178 hl (by decide) rfl (fun ls hl => ?_)
                      refine lv_goto (tgt := 248) hx hb dX8_meaning_180 (by decide) ?_
                      refine lv_iinc (v := (x12 + (-1))) (lv' := [(12, .int (x12 + (-1))), (8, .int 0), (10, .int 0), (14, .int (f_this_kinds (Int32.toNatClampNeg (f_p1 (Int32.toNatClampNeg x6))))), (6, .int ((x6 + x5) - x2)), (13, .int (f_p1 (Int32.toNatClampNeg x6))), (0, .ref q_this), (1, .ref q_p1), (2, .int x2), (4, .int x4), (5, .int x5), (7, .int x7), (9, .int x9), (11, .int x11)]) hx hb dX8_meaning_248 hl (k := 13) rfl (by rfl) (by decide) rfl (fun ls hl => ?_)
                      refine lv_goto (tgt := 66) hx hb dX8_meaning_251 (by decide) ?_
                      exact ih66 ((x6 + x5) - x2) x7 0 x9 0 x11 (x12 + (-1)) _ _ _ hP hD hS (lv_sub hl [6, 7, 8, 9, 10, 4, 11, 1, 12, 2, 13, 0] rfl) hf
                    · replace hf := hf.1 c36
                      refine lv_iconst (v := 1) hx hb dX8_meaning_173 (by decide) ?_
                      refine lv_goto (tgt := 178) hx hb dX8_meaning_174 (by decide) ?_
                      refine lv_istore (lv' := [(8, .int 1), (10, .int 0), (14, .int (f_this_kinds (Int32.toNatClampNeg (f_p1 (Int32.toNatClampNeg x6))))), (6, .int ((x6 + x5) - x2)), (13, .int (f_p1 (Int32.toNatClampNeg x6))), (0, .ref q_this), (1, .ref q_p1), (2, .int x2), (4, .int x4), (5, .int x5), (7, .int x7), (9, .int x9), (11, .int x11), (12, .int x12)]) hx hb dX8_meaning_178 hl (by decide) rfl (fun ls hl => ?_)
                      refine lv_goto (tgt := 248) hx hb dX8_meaning_180 (by decide) ?_
                      refine lv_iinc (v := (x12 + (-1))) (lv' := [(12, .int (x12 + (-1))), (8, .int 1), (10, .int 0), (14, .int (f_this_kinds (Int32.toNatClampNeg (f_p1 (Int32.toNatClampNeg x6))))), (6, .int ((x6 + x5) - x2)), (13, .int (f_p1 (Int32.toNatClampNeg x6))), (0, .ref q_this), (1, .ref q_p1), (2, .int x2), (4, .int x4), (5, .int x5), (7, .int x7), (9, .int x9), (11, .int x11)]) hx hb dX8_meaning_248 hl (k := 13) rfl (by rfl) (by decide) rfl (fun ls hl => ?_)
                      refine lv_goto (tgt := 66) hx hb dX8_meaning_251 (by decide) ?_
                      exact ih66 ((x6 + x5) - x2) x7 1 x9 0 x11 (x12 + (-1)) _ _ _ hP hD hS (lv_sub hl [6, 7, 8, 9, 10, 4, 11, 1, 12, 2, 13, 0] rfl) hf
                  · replace hf := hf.1 c35
                    refine lv_bipush (v := 16) hx hb dX8_meaning_161 (by decide) ?_
                    exact z_iret hx hb hr hlocks () hf hK hP hD hS dX8_meaning_163
            · replace hf := hf.1 c27
              refine lv_iload hx hb dX8_meaning_124 (lv_at hl 6 rfl) ?_
              refine lv_iconst (v := 2) hx hb dX8_meaning_126 (by decide) ?_
              refine lv_icmp_ne (tgt := 248) hx hb dX8_meaning_127 (by decide) (fun c37 => ?_) (fun c37 => ?_)
              · replace hf := hf.2 c37
                refine lv_iinc (v := (x12 + (-1))) (lv' := [(12, .int (x12 + (-1))), (14, .int (f_this_kinds (Int32.toNatClampNeg (f_p1 (Int32.toNatClampNeg x6))))), (6, .int ((x6 + x5) - x2)), (13, .int (f_p1 (Int32.toNatClampNeg x6))), (0, .ref q_this), (1, .ref q_p1), (2, .int x2), (4, .int x4), (5, .int x5), (7, .int x7), (8, .int x8), (9, .int x9), (10, .int x10), (11, .int x11)]) hx hb dX8_meaning_248 hl (k := 13) rfl (by rfl) (by decide) rfl (fun ls hl => ?_)
                refine lv_goto (tgt := 66) hx hb dX8_meaning_251 (by decide) ?_
                exact ih66 ((x6 + x5) - x2) x7 x8 x9 x10 x11 (x12 + (-1)) _ _ _ hP hD hS (lv_sub hl [4, 5, 6, 7, 8, 2, 9, 10, 11, 12, 13, 0] rfl) hf
              · replace hf := hf.1 c37
                refine lv_iload hx hb dX8_meaning_130 (lv_at hl 10 rfl) ?_
                refine lv_if_eq (tgt := 248) hx hb dX8_meaning_132 (by decide) (fun c38 => ?_) (fun c38 => ?_)
                · replace hf := hf.1 c38
                  refine lv_iinc (v := (x12 + (-1))) (lv' := [(12, .int (x12 + (-1))), (14, .int (f_this_kinds (Int32.toNatClampNeg (f_p1 (Int32.toNatClampNeg x6))))), (6, .int ((x6 + x5) - x2)), (13, .int (f_p1 (Int32.toNatClampNeg x6))), (0, .ref q_this), (1, .ref q_p1), (2, .int x2), (4, .int x4), (5, .int x5), (7, .int x7), (8, .int x8), (9, .int x9), (10, .int x10), (11, .int x11)]) hx hb dX8_meaning_248 hl (k := 13) rfl (by rfl) (by decide) rfl (fun ls hl => ?_)
                  refine lv_goto (tgt := 66) hx hb dX8_meaning_251 (by decide) ?_
                  exact ih66 ((x6 + x5) - x2) x7 x8 x9 x10 x11 (x12 + (-1)) _ _ _ hP hD hS (lv_sub hl [4, 5, 6, 7, 8, 2, 9, 10, 11, 12, 13, 0] rfl) hf
                · replace hf := hf.2 c38
                  refine lv_iload hx hb dX8_meaning_135 (lv_at hl 2 rfl) ?_
                  refine lv_iconst (v := (-1)) hx hb dX8_meaning_137 (by decide) ?_
                  refine lv_icmp_eq (tgt := 248) hx hb dX8_meaning_138 (by decide) (fun c39 => ?_) (fun c39 => ?_)
                  · replace hf := hf.1 c39
                    refine lv_iinc (v := (x12 + (-1))) (lv' := [(12, .int (x12 + (-1))), (14, .int (f_this_kinds (Int32.toNatClampNeg (f_p1 (Int32.toNatClampNeg x6))))), (6, .int ((x6 + x5) - x2)), (13, .int (f_p1 (Int32.toNatClampNeg x6))), (0, .ref q_this), (1, .ref q_p1), (2, .int x2), (4, .int x4), (5, .int x5), (7, .int x7), (8, .int x8), (9, .int x9), (10, .int x10), (11, .int x11)]) hx hb dX8_meaning_248 hl (k := 13) rfl (by rfl) (by decide) rfl (fun ls hl => ?_)
                    refine lv_goto (tgt := 66) hx hb dX8_meaning_251 (by decide) ?_
                    exact ih66 ((x6 + x5) - x2) x7 x8 x9 x10 x11 (x12 + (-1)) _ _ _ hP hD hS (lv_sub hl [4, 5, 6, 7, 8, 2, 9, 10, 11, 12, 13, 0] rfl) hf
                  · replace hf := hf.2 c39
                    refine lv_goto (tgt := 254) hx hb dX8_meaning_141 (by decide) ?_
                    exact E254 x7 x10 _ _ _ hP hD hS (lv_sub hl [8, 11] rfl) hf
  unfold wp_X8_meaning at hf
  refine lv_iload_n hx hb dX8_meaning_0 rfl (lv_at hl 2 rfl) ?_
  refine lv_iconst (v := 1) hx hb dX8_meaning_1 (by decide) ?_
  refine lv_icmp_lt (tgt := 20) hx hb dX8_meaning_2 (by decide) (fun c1 => ?_) (fun c1 => ?_)
  · replace hf := hf.1 c1
    refine lv_bipush (v := 16) hx hb dX8_meaning_20 (by decide) ?_
    exact z_iret hx hb hr hlocks () hf hK hP hD hS dX8_meaning_22
  · replace hf := hf.2 c1
    refine lv_iload_n hx hb dX8_meaning_5 rfl (lv_at hl 2 rfl) ?_
    refine lv_aload_n hx hb dX8_meaning_6 rfl (lv_at hl 1 rfl) ?_
    refine va_alen hx hb hK hP 3 0 rfl (ty := .int) rfl (v := (Int32.ofNat n_p1)) rfl dX8_meaning_7 ?_
    refine lv_icmp_gt (tgt := 20) hx hb dX8_meaning_8 (by decide) (fun c2 => ?_) (fun c2 => ?_)
    · replace hf := hf.1 c2
      refine lv_bipush (v := 16) hx hb dX8_meaning_20 (by decide) ?_
      exact z_iret hx hb hr hlocks () hf hK hP hD hS dX8_meaning_22
    · replace hf := hf.2 c2
      refine lv_iload_n hx hb dX8_meaning_11 rfl (lv_at hl 3 rfl) ?_
      refine lv_if_lt (tgt := 20) hx hb dX8_meaning_12 (by decide) (fun c3 => ?_) (fun c3 => ?_)
      · replace hf := hf.1 c3
        refine lv_bipush (v := 16) hx hb dX8_meaning_20 (by decide) ?_
        exact z_iret hx hb hr hlocks () hf hK hP hD hS dX8_meaning_22
      · replace hf := hf.2 c3
        refine lv_iload_n hx hb dX8_meaning_15 rfl (lv_at hl 3 rfl) ?_
        refine lv_iload_n hx hb dX8_meaning_16 rfl (lv_at hl 2 rfl) ?_
        refine lv_icmp_lt (tgt := 23) hx hb dX8_meaning_17 (by decide) (fun c4 => ?_) (fun c4 => ?_)
        · replace hf := hf.1 c4
          refine lv_iload hx hb dX8_meaning_23 (lv_at hl 4 rfl) ?_
          refine lv_iload_n hx hb dX8_meaning_25 rfl (lv_at hl 2 rfl) ?_
          refine z_Si (n := 2) (As := [.int x4, .int x2]) (rest := []) ⟨hx, hb, hml, hown, hts⟩ (c_X8_strideOf l dC dI cI cC cS  _  x4 x2 N _  hf) gX8_meaning_X8_strideOf rfl rfl rfl (by decide +kernel) ⟨Nat.le_of_ble_eq_true rfl, Nat.le_of_ble_eq_true rfl⟩ hK hP hD hS hA rfl hl.1 rfl (Nat.le_of_ble_eq_true rfl) dX8_meaning_26 ⟨Nat.zero_le _, Nat.zero_le _⟩ [] [0, 1, 2, 3] (([(q_this, .inr (7, [.ref q_this_kinds, .ref q_this_sets, .ref q_this_weights, .ref q_this_stocks, .int v_this_words, .ref q_this_readers, .ref q_this_eighths, .ref q_this_wishes, .int v_this_roads])), (q_this_kinds, .inl (cI, 6, .inl f_this_kinds)), (q_this_sets, .inl (cI, 6, .inl f_this_sets)), (q_p1, .inl (cI, n_p1, .inl f_p1))] : va_W)) rfl rfl (by decide) (by decide) (by decide) (fun u => (zW_X8_meaning cI cC cS q_this q_this_kinds q_this_sets q_p1 q_this_weights q_this_stocks q_this_readers q_this_eighths q_this_wishes n_p1 v_this_words v_this_roads f_this_kinds f_this_sets f_p1)) [0, 1, 2, 3] (fun u => rfl) (by decide) (fun r5 u5 H locs hf hP hD hS => ?_)
          have hP : va_P (dC, dI) vwCl (zW_X8_meaning cI cC cS q_this q_this_kinds q_this_sets q_p1 q_this_weights q_this_stocks q_this_readers q_this_eighths q_this_wishes n_p1 v_this_words v_this_roads f_this_kinds f_this_sets f_p1) H := hP
          have hD : va_D A (zW_X8_meaning cI cC cS q_this q_this_kinds q_this_sets q_p1 q_this_weights q_this_stocks q_this_readers q_this_eighths q_this_wishes n_p1 v_this_words v_this_roads f_this_kinds f_this_sets f_p1) := hD
          refine lv_istore (lv' := [(5, .int r5), (0, .ref q_this), (1, .ref q_p1), (2, .int x2), (3, .int x3), (4, .int x4)]) hx hb dX8_meaning_29 hl (by decide) rfl (fun ls hl => ?_)
          refine lv_iload_n hx hb dX8_meaning_31 rfl (lv_at hl 4 rfl) ?_
          refine lv_istore (lv' := [(6, .int x3), (5, .int r5), (0, .ref q_this), (1, .ref q_p1), (2, .int x2), (3, .int x3), (4, .int x4)]) hx hb dX8_meaning_32 hl (by decide) rfl (fun ls hl => ?_)
          refine lv_iconst (v := 0) hx hb dX8_meaning_34 (by decide) ?_
          refine lv_istore (lv' := [(7, .int 0), (6, .int x3), (5, .int r5), (0, .ref q_this), (1, .ref q_p1), (2, .int x2), (3, .int x3), (4, .int x4)]) hx hb dX8_meaning_35 hl (by decide) rfl (fun ls hl => ?_)
          refine lv_iconst (v := 0) hx hb dX8_meaning_37 (by decide) ?_
          refine lv_istore (lv' := [(8, .int 0), (7, .int 0), (6, .int x3), (5, .int r5), (0, .ref q_this), (1, .ref q_p1), (2, .int x2), (3, .int x3), (4, .int x4)]) hx hb dX8_meaning_38 hl (by decide) rfl (fun ls hl => ?_)
          refine lv_iconst (v := 0) hx hb dX8_meaning_40 (by decide) ?_
          refine lv_istore (lv' := [(9, .int 0), (8, .int 0), (7, .int 0), (6, .int x3), (5, .int r5), (0, .ref q_this), (1, .ref q_p1), (2, .int x2), (3, .int x3), (4, .int x4)]) hx hb dX8_meaning_41 hl (by decide) rfl (fun ls hl => ?_)
          refine lv_iconst (v := 0) hx hb dX8_meaning_43 (by decide) ?_
          refine lv_istore (lv' := [(10, .int 0), (9, .int 0), (8, .int 0), (7, .int 0), (6, .int x3), (5, .int r5), (0, .ref q_this), (1, .ref q_p1), (2, .int x2), (3, .int x3), (4, .int x4)]) hx hb dX8_meaning_44 hl (by decide) rfl (fun ls hl => ?_)
          refine lv_iconst (v := 0) hx hb dX8_meaning_46 (by decide) ?_
          refine lv_istore (lv' := [(11, .int 0), (10, .int 0), (9, .int 0), (8, .int 0), (7, .int 0), (6, .int x3), (5, .int r5), (0, .ref q_this), (1, .ref q_p1), (2, .int x2), (3, .int x3), (4, .int x4)]) hx hb dX8_meaning_47 hl (by decide) rfl (fun ls hl => ?_)
          refine lv_iload hx hb dX8_meaning_49 (lv_at hl 11 rfl) ?_
          refine lv_iconst (v := 4) hx hb dX8_meaning_51 (by decide) ?_
          refine lv_icmp_ne (tgt := 63) hx hb dX8_meaning_52 (by decide) (fun c6 => ?_) (fun c6 => ?_)
          · replace hf := hf.2 c6
            refine lv_iload_n hx hb dX8_meaning_63 rfl (lv_at hl 9 rfl) ?_
            refine lv_istore (lv' := [(12, .int x2), (11, .int 0), (10, .int 0), (9, .int 0), (8, .int 0), (7, .int 0), (6, .int x3), (5, .int r5), (0, .ref q_this), (1, .ref q_p1), (2, .int x2), (3, .int x3), (4, .int x4)]) hx hb dX8_meaning_64 hl (by decide) rfl (fun ls hl => ?_)
            exact L66 r5 N x3 0 0 0 0 0 x2 _ _ _ hP hD hS (lv_sub hl [8, 9, 10, 12, 7, 6, 5, 4, 3, 2, 1, 0] rfl) hf
          · replace hf := hf.1 c6
            refine lv_iload_n hx hb dX8_meaning_55 rfl (lv_at hl 9 rfl) ?_
            refine lv_iconst (v := 1) hx hb dX8_meaning_56 (by decide) ?_
            refine lv_iadd hx hb dX8_meaning_57 ?_
            refine lv_iconst (v := 2) hx hb dX8_meaning_58 (by decide) ?_
            refine lv_idiv hx hb dX8_meaning_59 (by decide) ?_
            refine lv_goto (tgt := 64) hx hb dX8_meaning_60 (by decide) ?_
            refine lv_istore (lv' := [(12, .int ((x2 + 1) / 2)), (11, .int 0), (10, .int 0), (9, .int 0), (8, .int 0), (7, .int 0), (6, .int x3), (5, .int r5), (0, .ref q_this), (1, .ref q_p1), (2, .int x2), (3, .int x3), (4, .int x4)]) hx hb dX8_meaning_64 hl (by decide) rfl (fun ls hl => ?_)
            exact L66 r5 N x3 0 0 0 0 0 ((x2 + 1) / 2) _ _ _ hP hD hS (lv_sub hl [8, 9, 10, 12, 7, 6, 5, 4, 3, 2, 1, 0] rfl) hf
        · replace hf := hf.2 c4
          refine lv_bipush (v := 16) hx hb dX8_meaning_20 (by decide) ?_
          exact z_iret hx hb hr hlocks () hf hK hP hD hS dX8_meaning_22
def wp_X8_readByRoad (N : Nat) (n_p2 : Nat) (x1 : Int32) (x3 : Int32) (v_this_words : Int32) (f_this_kinds : Nat → Int32) (f_this_sets : Nat → Int32) (f_this_readers : Nat → Int32) (f_this_eighths : Nat → Int32) (f_p2 : Nat → Int32) (Φ : Int32 → Prop) : Prop := 
    wp_X8_beginOf N x1 x3 f_this_eighths (fun r1 => 
     (vp_in x1 6 ∧ wp_X8_meaning N n_p2 x3 r1 (f_this_readers (Int32.toNatClampNeg x1)) v_this_words f_this_kinds f_this_sets f_p2 (fun r2 => 
     Φ r2)))
abbrev zW_X8_readByRoad (cI cC cS : ClassId) (q_this : Nat) (q_this_kinds : Nat) (q_this_sets : Nat) (q_this_readers : Nat) (q_this_eighths : Nat) (q_p2 : Nat) (q_this_weights : Nat) (q_this_stocks : Nat) (q_this_wishes : Nat) (n_p2 : Nat) (v_this_words : Int32) (v_this_roads : Int32) (f_this_kinds : Nat → Int32) (f_this_sets : Nat → Int32) (f_this_readers : Nat → Int32) (f_this_eighths : Nat → Int32) (f_p2 : Nat → Int32) : va_W := [(q_this, .inr (7, [.ref q_this_kinds, .ref q_this_sets, .ref q_this_weights, .ref q_this_stocks, .int v_this_words, .ref q_this_readers, .ref q_this_eighths, .ref q_this_wishes, .int v_this_roads])),
  (q_this_kinds, .inl (cI, 6, .inl f_this_kinds)),
  (q_this_sets, .inl (cI, 6, .inl f_this_sets)),
  (q_this_readers, .inl (cI, 6, .inl f_this_readers)),
  (q_this_eighths, .inl (cI, 6, .inl f_this_eighths)),
  (q_p2, .inl (cI, n_p2, .inl f_p2))]
abbrev zr_X8_readByRoad : Room := { frames := 2, cells := 0, slots := 0, locals := 56 }
set_option maxHeartbeats 4000000 in
set_option maxRecDepth 100000 in
theorem c_X8_readByRoad (l : Launch) (dC : Nat → ClassId) (dI : Nat → Nat → Nat) (cI cC cS : ClassId) (q_this : Nat) (q_this_kinds : Nat) (q_this_sets : Nat) (q_this_readers : Nat) (q_this_eighths : Nat) (q_p2 : Nat) (q_this_weights : Nat) (q_this_stocks : Nat) (q_this_wishes : Nat) (sz : Nat) (n_p2 : Nat) (v_this_words : Int32) (v_this_roads : Int32) (f_this_kinds : Nat → Int32) (f_this_sets : Nat → Int32) (f_this_readers : Nat → Int32) (f_this_eighths : Nat → Int32) (f_p2 : Nat → Int32) (x1 : Int32) (x3 : Int32) (N : Nat) (Φ : Int32 → Prop)  (hf : wp_X8_readByRoad N n_p2 x1 x3 v_this_words f_this_kinds f_this_sets f_this_readers f_this_eighths f_p2 Φ) : Met l yX8_readByRoad wsX8_readByRoad zr_X8_readByRoad (zPc (dC, dI) (zT cI cC cS) [.ref q_this, .int x1, .ref q_p2, .int x3] sz (zW_X8_readByRoad cI cC cS q_this q_this_kinds q_this_sets q_this_readers q_this_eighths q_p2 q_this_weights q_this_stocks q_this_wishes n_p2 v_this_words v_this_roads f_this_kinds f_this_sets f_this_readers f_this_eighths f_p2)) (zQi (dC, dI) (zT cI cC cS) (va_A (zW_X8_readByRoad cI cC cS q_this q_this_kinds q_this_sets q_this_readers q_this_eighths q_p2 q_this_weights q_this_stocks q_this_wishes n_p2 v_this_words v_this_roads f_this_kinds f_this_sets f_this_readers f_this_eighths f_p2) sz) (fun (r : Int32) (u : Unit) => Φ r) (fun u => (zW_X8_readByRoad cI cC cS q_this q_this_kinds q_this_sets q_this_readers q_this_eighths q_p2 q_this_weights q_this_stocks q_this_wishes n_p2 v_this_words v_this_roads f_this_kinds f_this_sets f_this_readers f_this_eighths f_p2))) 0 0 (va_A (zW_X8_readByRoad cI cC cS q_this q_this_kinds q_this_sets q_this_readers q_this_eighths q_p2 q_this_weights q_this_stocks q_this_wishes n_p2 v_this_words v_this_roads f_this_kinds f_this_sets f_this_readers f_this_eighths f_p2) sz) := by
  refine Met.ofW (cc := cX8_readByRoad) (maxL := 4) (ret := (some .int)) (by decide) rfl ?_
  intro p e s m args below meth c s₁ B hml hv
  obtain ⟨rfl, hsz, hP, hK, hD0⟩ := hv
  have hx := B.exec
  have hb := B.bytes
  have hr := B.returns
  have hts := atoms_spec (ws := wsX8_readByRoad) B.pre
  have hown : s.vm.findClass RX8 = some m.cls := findClass_of_methodNamed B.named
  have hlocks := B.notSynchronized
  subst hsz
  have hD := hD0.self (sz := s.heap.size)
  have hA : ∀ q : Nat, s.heap.size ≤ q → va_A (zW_X8_readByRoad cI cC cS q_this q_this_kinds q_this_sets q_this_readers q_this_eighths q_p2 q_this_weights q_this_stocks q_this_wishes n_p2 v_this_words v_this_roads f_this_kinds f_this_sets f_this_readers f_this_eighths f_p2) s.heap.size q := fun q h => Or.inr h
  generalize va_A (zW_X8_readByRoad cI cC cS q_this q_this_kinds q_this_sets q_this_readers q_this_eighths q_p2 q_this_weights q_this_stocks q_this_wishes n_p2 v_this_words v_this_roads f_this_kinds f_this_sets f_this_readers f_this_eighths f_p2) s.heap.size = A at hD hA ⊢
  have hS : va_S A s.heap s.heap [] := va_S.rf
  have hl := lv_entry ([.ref q_this, .int x1, .ref q_p2, .int x3]) (n := 4) (Nat.le_of_ble_eq_true rfl)
  rw [lg_entry_eq]
  generalize (lg_sl ([.ref q_this, .int x1, .ref q_p2, .int x3]) ++ List.replicate (4 - (lg_sl ([.ref q_this, .int x1, .ref q_p2, .int x3])).length) Slot.unset).toArray = ls at hl ⊢
  have hl : lv_has ls 4 [(0, .ref q_this), (1, .int x1), (2, .ref q_p2), (3, .int x3)] := hl
  have lk1 := hts (.fieldLink RX8 28 "ReadFromAnywhere$Tongue" "readers" "[I") (List.mem_of_getElem? (i := 1) rfl)
  have inX8 : ∀ w ∈ u_ws RX8 TX8 9, w ∈ wsX8_readByRoad := fun _ h => List.mem_cons_of_mem _ (List.mem_append_right _ h)
  unfold wp_X8_readByRoad at hf
  refine lv_aload_n hx hb dX8_readByRoad_0 rfl (lv_at hl 0 rfl) ?_
  refine lv_aload_n hx hb dX8_readByRoad_1 rfl (lv_at hl 2 rfl) ?_
  refine lv_iload_n hx hb dX8_readByRoad_2 rfl (lv_at hl 3 rfl) ?_
  refine lv_aload_n hx hb dX8_readByRoad_3 rfl (lv_at hl 0 rfl) ?_
  refine lv_iload_n hx hb dX8_readByRoad_4 rfl (lv_at hl 1 rfl) ?_
  refine lv_iload_n hx hb dX8_readByRoad_5 rfl (lv_at hl 3 rfl) ?_
  refine z_Vi (n := 2) (As := [.int x1, .int x3]) (rest := [.int x3, .ref q_p2, .ref q_this]) ⟨hx, hb, hml, hown, hts⟩ (c_X8_beginOf l dC dI cI cC cS q_this q_this_eighths q_this_kinds q_this_sets q_this_weights q_this_stocks q_this_readers q_this_wishes _ v_this_words v_this_roads f_this_eighths x1 x3 N _  hf) gX8_readByRoad_X8_beginOf rfl rfl rfl (by decide +kernel) ⟨Nat.le_of_ble_eq_true rfl, Nat.le_of_ble_eq_true rfl⟩ hK hP hD hS hA 0 7 rfl rfl rfl hl.1 rfl (Nat.le_of_ble_eq_true rfl) dX8_readByRoad_6 ⟨Nat.zero_le _, Nat.zero_le _⟩ [0, 4] [1, 2, 3, 5] (([(q_this_kinds, .inl (cI, 6, .inl f_this_kinds)), (q_this_sets, .inl (cI, 6, .inl f_this_sets)), (q_this_readers, .inl (cI, 6, .inl f_this_readers)), (q_p2, .inl (cI, n_p2, .inl f_p2))] : va_W)) rfl rfl (by decide) (by decide) (by decide) (fun u => (zW_X8_readByRoad cI cC cS q_this q_this_kinds q_this_sets q_this_readers q_this_eighths q_p2 q_this_weights q_this_stocks q_this_wishes n_p2 v_this_words v_this_roads f_this_kinds f_this_sets f_this_readers f_this_eighths f_p2)) [4, 0, 1, 2, 5, 3] (fun u => rfl) (by decide) (fun r1 u1 H locs hf hP hD hS => ?_)
  have hP : va_P (dC, dI) vwCl (zW_X8_readByRoad cI cC cS q_this q_this_kinds q_this_sets q_this_readers q_this_eighths q_p2 q_this_weights q_this_stocks q_this_wishes n_p2 v_this_words v_this_roads f_this_kinds f_this_sets f_this_readers f_this_eighths f_p2) H := hP
  have hD : va_D A (zW_X8_readByRoad cI cC cS q_this q_this_kinds q_this_sets q_this_readers q_this_eighths q_p2 q_this_weights q_this_stocks q_this_wishes n_p2 v_this_words v_this_roads f_this_kinds f_this_sets f_this_readers f_this_eighths f_p2) := hD
  refine lv_aload_n hx hb dX8_readByRoad_9 rfl (lv_at hl 0 rfl) ?_
  refine va_get (D := (dC, dI)) (ci := 7) (v := .ref q_this_readers) (C := RX8) (T := TX8) (N := 9) hx hb hts inX8 hown hK hP 0 rfl rfl 5 (by decide) lk1 (fun _ h9 => h9) rfl dX8_readByRoad_10 ?_
  refine lv_iload_n hx hb dX8_readByRoad_13 rfl (lv_at hl 1 rfl) ?_
  refine va_iald hx hb hK hP 3 0 rfl rfl hf.1 dX8_readByRoad_14 ?_
  replace hf := hf.2
  refine z_Vi (n := 4) (As := [.ref q_p2, .int x3, .int r1, .int (f_this_readers (Int32.toNatClampNeg x1))]) (rest := []) ⟨hx, hb, hml, hown, hts⟩ (c_X8_meaning l dC dI cI cC cS q_this q_this_kinds q_this_sets q_p2 q_this_weights q_this_stocks q_this_readers q_this_eighths q_this_wishes _ n_p2 v_this_words v_this_roads f_this_kinds f_this_sets f_p2 x3 r1 (f_this_readers (Int32.toNatClampNeg x1)) N _  hf) gX8_readByRoad_X8_meaning rfl rfl rfl (by decide +kernel) ⟨Nat.le_of_ble_eq_true rfl, Nat.le_of_ble_eq_true rfl⟩ hK hP hD hS hA 0 7 rfl rfl rfl hl.1 rfl (Nat.le_of_ble_eq_true rfl) dX8_readByRoad_15 ⟨Nat.zero_le _, Nat.zero_le _⟩ [0, 1, 2, 5] [3, 4] (([(q_this_readers, .inl (cI, 6, .inl f_this_readers)), (q_this_eighths, .inl (cI, 6, .inl f_this_eighths))] : va_W)) rfl rfl (by decide) (by decide) (by decide) (fun u => (zW_X8_readByRoad cI cC cS q_this q_this_kinds q_this_sets q_this_readers q_this_eighths q_p2 q_this_weights q_this_stocks q_this_wishes n_p2 v_this_words v_this_roads f_this_kinds f_this_sets f_this_readers f_this_eighths f_p2)) [2, 3, 4, 0, 1, 5] (fun u => rfl) (by decide) (fun r2 u2 H locs hf hP hD hS => ?_)
  have hP : va_P (dC, dI) vwCl (zW_X8_readByRoad cI cC cS q_this q_this_kinds q_this_sets q_this_readers q_this_eighths q_p2 q_this_weights q_this_stocks q_this_wishes n_p2 v_this_words v_this_roads f_this_kinds f_this_sets f_this_readers f_this_eighths f_p2) H := hP
  have hD : va_D A (zW_X8_readByRoad cI cC cS q_this q_this_kinds q_this_sets q_this_readers q_this_eighths q_p2 q_this_weights q_this_stocks q_this_wishes n_p2 v_this_words v_this_roads f_this_kinds f_this_sets f_this_readers f_this_eighths f_p2) := hD
  exact z_iret hx hb hr hlocks () hf hK hP hD hS dX8_readByRoad_18
def lp_X8_firstAgainst_2 (N : Nat) (n_p1 : Nat) (x2 : Int32) (v_this_words : Int32) (v_this_roads : Int32) (f_this_kinds : Nat → Int32) (f_this_sets : Nat → Int32) (f_this_readers : Nat → Int32) (f_this_eighths : Nat → Int32) (f_this_wishes : Nat → Int32) (f_p1 : Nat → Int32) (Φ : Int32 → Prop) : Nat → Int32 → Prop
  | 0, _ => False
  | n + 1, x3 => 
    ((v_this_roads ≤ x3 → Φ (-9)) ∧
     (¬ (v_this_roads ≤ x3) → wp_X8_readByRoad N n_p1 x3 x2 v_this_words f_this_kinds f_this_sets f_this_readers f_this_eighths f_p1 (fun r2 => 
     (vp_in x3 6 ∧ ((r2 = (f_this_wishes (Int32.toNatClampNeg x3)) → (lp_X8_firstAgainst_2 N n_p1 x2 v_this_words v_this_roads f_this_kinds f_this_sets f_this_readers f_this_eighths f_this_wishes f_p1 Φ n) (x3 + 1)) ∧
     (¬ (r2 = (f_this_wishes (Int32.toNatClampNeg x3))) → Φ x3))))))
def wp_X8_firstAgainst (N : Nat) (n_p1 : Nat) (x2 : Int32) (v_this_words : Int32) (v_this_roads : Int32) (f_this_kinds : Nat → Int32) (f_this_sets : Nat → Int32) (f_this_readers : Nat → Int32) (f_this_eighths : Nat → Int32) (f_this_wishes : Nat → Int32) (f_p1 : Nat → Int32) (Φ : Int32 → Prop) : Prop := 
    lp_X8_firstAgainst_2 N n_p1 x2 v_this_words v_this_roads f_this_kinds f_this_sets f_this_readers f_this_eighths f_this_wishes f_p1 Φ N 0
abbrev zW_X8_firstAgainst (cI cC cS : ClassId) (q_this : Nat) (q_this_kinds : Nat) (q_this_sets : Nat) (q_this_readers : Nat) (q_this_eighths : Nat) (q_this_wishes : Nat) (q_p1 : Nat) (q_this_weights : Nat) (q_this_stocks : Nat) (n_p1 : Nat) (v_this_words : Int32) (v_this_roads : Int32) (f_this_kinds : Nat → Int32) (f_this_sets : Nat → Int32) (f_this_readers : Nat → Int32) (f_this_eighths : Nat → Int32) (f_this_wishes : Nat → Int32) (f_p1 : Nat → Int32) : va_W := [(q_this, .inr (7, [.ref q_this_kinds, .ref q_this_sets, .ref q_this_weights, .ref q_this_stocks, .int v_this_words, .ref q_this_readers, .ref q_this_eighths, .ref q_this_wishes, .int v_this_roads])),
  (q_this_kinds, .inl (cI, 6, .inl f_this_kinds)),
  (q_this_sets, .inl (cI, 6, .inl f_this_sets)),
  (q_this_readers, .inl (cI, 6, .inl f_this_readers)),
  (q_this_eighths, .inl (cI, 6, .inl f_this_eighths)),
  (q_this_wishes, .inl (cI, 6, .inl f_this_wishes)),
  (q_p1, .inl (cI, n_p1, .inl f_p1))]
abbrev zr_X8_firstAgainst : Room := { frames := 3, cells := 0, slots := 0, locals := 79 }
set_option maxHeartbeats 4000000 in
set_option maxRecDepth 100000 in
theorem c_X8_firstAgainst (l : Launch) (dC : Nat → ClassId) (dI : Nat → Nat → Nat) (cI cC cS : ClassId) (q_this : Nat) (q_this_kinds : Nat) (q_this_sets : Nat) (q_this_readers : Nat) (q_this_eighths : Nat) (q_this_wishes : Nat) (q_p1 : Nat) (q_this_weights : Nat) (q_this_stocks : Nat) (sz : Nat) (n_p1 : Nat) (v_this_words : Int32) (v_this_roads : Int32) (f_this_kinds : Nat → Int32) (f_this_sets : Nat → Int32) (f_this_readers : Nat → Int32) (f_this_eighths : Nat → Int32) (f_this_wishes : Nat → Int32) (f_p1 : Nat → Int32) (x2 : Int32) (N : Nat) (Φ : Int32 → Prop)  (hf : wp_X8_firstAgainst N n_p1 x2 v_this_words v_this_roads f_this_kinds f_this_sets f_this_readers f_this_eighths f_this_wishes f_p1 Φ) : Met l yX8_firstAgainst wsX8_firstAgainst zr_X8_firstAgainst (zPc (dC, dI) (zT cI cC cS) [.ref q_this, .ref q_p1, .int x2] sz (zW_X8_firstAgainst cI cC cS q_this q_this_kinds q_this_sets q_this_readers q_this_eighths q_this_wishes q_p1 q_this_weights q_this_stocks n_p1 v_this_words v_this_roads f_this_kinds f_this_sets f_this_readers f_this_eighths f_this_wishes f_p1)) (zQi (dC, dI) (zT cI cC cS) (va_A (zW_X8_firstAgainst cI cC cS q_this q_this_kinds q_this_sets q_this_readers q_this_eighths q_this_wishes q_p1 q_this_weights q_this_stocks n_p1 v_this_words v_this_roads f_this_kinds f_this_sets f_this_readers f_this_eighths f_this_wishes f_p1) sz) (fun (r : Int32) (u : Unit) => Φ r) (fun u => (zW_X8_firstAgainst cI cC cS q_this q_this_kinds q_this_sets q_this_readers q_this_eighths q_this_wishes q_p1 q_this_weights q_this_stocks n_p1 v_this_words v_this_roads f_this_kinds f_this_sets f_this_readers f_this_eighths f_this_wishes f_p1))) 0 0 (va_A (zW_X8_firstAgainst cI cC cS q_this q_this_kinds q_this_sets q_this_readers q_this_eighths q_this_wishes q_p1 q_this_weights q_this_stocks n_p1 v_this_words v_this_roads f_this_kinds f_this_sets f_this_readers f_this_eighths f_this_wishes f_p1) sz) := by
  refine Met.ofW (cc := cX8_firstAgainst) (maxL := 4) (ret := (some .int)) (by decide) rfl ?_
  intro p e s m args below meth c s₁ B hml hv
  obtain ⟨rfl, hsz, hP, hK, hD0⟩ := hv
  have hx := B.exec
  have hb := B.bytes
  have hr := B.returns
  have hts := atoms_spec (ws := wsX8_firstAgainst) B.pre
  have hown : s.vm.findClass RX8 = some m.cls := findClass_of_methodNamed B.named
  have hlocks := B.notSynchronized
  subst hsz
  have hD := hD0.self (sz := s.heap.size)
  have hA : ∀ q : Nat, s.heap.size ≤ q → va_A (zW_X8_firstAgainst cI cC cS q_this q_this_kinds q_this_sets q_this_readers q_this_eighths q_this_wishes q_p1 q_this_weights q_this_stocks n_p1 v_this_words v_this_roads f_this_kinds f_this_sets f_this_readers f_this_eighths f_this_wishes f_p1) s.heap.size q := fun q h => Or.inr h
  generalize va_A (zW_X8_firstAgainst cI cC cS q_this q_this_kinds q_this_sets q_this_readers q_this_eighths q_this_wishes q_p1 q_this_weights q_this_stocks n_p1 v_this_words v_this_roads f_this_kinds f_this_sets f_this_readers f_this_eighths f_this_wishes f_p1) s.heap.size = A at hD hA ⊢
  have hS : va_S A s.heap s.heap [] := va_S.rf
  have hl := lv_entry ([.ref q_this, .ref q_p1, .int x2]) (n := 4) (Nat.le_of_ble_eq_true rfl)
  rw [lg_entry_eq]
  generalize (lg_sl ([.ref q_this, .ref q_p1, .int x2]) ++ List.replicate (4 - (lg_sl ([.ref q_this, .ref q_p1, .int x2])).length) Slot.unset).toArray = ls at hl ⊢
  have hl : lv_has ls 4 [(0, .ref q_this), (1, .ref q_p1), (2, .int x2)] := hl
  have lk1 := hts (.fieldLink RX8 37 "ReadFromAnywhere$Tongue" "roads" "I") (List.mem_of_getElem? (i := 1) rfl)
  have inX8 : ∀ w ∈ u_ws RX8 TX8 9, w ∈ wsX8_firstAgainst := fun _ h => List.mem_cons_of_mem _ (List.mem_append_right _ h)
  have lk2 := hts (.fieldLink RX8 34 "ReadFromAnywhere$Tongue" "wishes" "[I") (List.mem_of_getElem? (i := 2) rfl)
  have L2 : ∀ (n2 : Nat) (x3 : Int32), ∀ (H : Heap) (locs : List Loc) (ls : Array Slot), va_P (dC, dI) vwCl (zW_X8_firstAgainst cI cC cS q_this q_this_kinds q_this_sets q_this_readers q_this_eighths q_this_wishes q_p1 q_this_weights q_this_stocks n_p1 v_this_words v_this_roads f_this_kinds f_this_sets f_this_readers f_this_eighths f_this_wishes f_p1) H → va_D A (zW_X8_firstAgainst cI cC cS q_this q_this_kinds q_this_sets q_this_readers q_this_eighths q_this_wishes q_p1 q_this_weights q_this_stocks n_p1 v_this_words v_this_roads f_this_kinds f_this_sets f_this_readers f_this_eighths f_this_wishes f_p1) → va_S A s.heap H locs → lv_has ls 4 [(0, .ref q_this), (1, .ref q_p1), (2, .int x2), (3, .int x3)] → lp_X8_firstAgainst_2 N n_p1 x2 v_this_words v_this_roads f_this_kinds f_this_sets f_this_readers f_this_eighths f_this_wishes f_p1 Φ n2 x3 → W p l e (headSpec wsX8_firstAgainst zr_X8_firstAgainst).room s m ([.ref q_this, .ref q_p1, .int x2] : List Value).toArray below meth c H locs 0 0 (MQ below (zQi (dC, dI) (zT cI cC cS) A (fun (r : Int32) (u : Unit) => Φ r) (fun u => (zW_X8_firstAgainst cI cC cS q_this q_this_kinds q_this_sets q_this_readers q_this_eighths q_this_wishes q_p1 q_this_weights q_this_stocks n_p1 v_this_words v_this_roads f_this_kinds f_this_sets f_this_readers f_this_eighths f_this_wishes f_p1))) ([.ref q_this, .ref q_p1, .int x2] : List Value).toArray s 0 0 A) (F0 m 2 ls []) := by
    intro n2
    induction n2 with
    | zero =>
      intro x3 H locs ls hP hD hS hl hf
      exact absurd hf (by rw [lp_X8_firstAgainst_2]; exact id)
    | succ n2 ih2 =>
      intro x3 H locs ls hP hD hS hl hf
      rw [lp_X8_firstAgainst_2] at hf
      refine lv_iload_n hx hb dX8_firstAgainst_2 rfl (lv_at hl 3 rfl) ?_
      refine lv_aload_n hx hb dX8_firstAgainst_3 rfl (lv_at hl 0 rfl) ?_
      refine va_get (D := (dC, dI)) (ci := 7) (v := .int v_this_roads) (C := RX8) (T := TX8) (N := 9) hx hb hts inX8 hown hK hP 0 rfl rfl 8 (by decide) lk1 (fun _ h9 => h9) rfl dX8_firstAgainst_4 ?_
      refine lv_icmp_ge (tgt := 34) hx hb dX8_firstAgainst_7 (by decide) (fun c1 => ?_) (fun c1 => ?_)
      · replace hf := hf.1 c1
        refine lv_bipush (v := (-9)) hx hb dX8_firstAgainst_34 (by decide) ?_
        exact z_iret hx hb hr hlocks () hf hK hP hD hS dX8_firstAgainst_36
      · replace hf := hf.2 c1
        refine lv_aload_n hx hb dX8_firstAgainst_10 rfl (lv_at hl 0 rfl) ?_
        refine lv_iload_n hx hb dX8_firstAgainst_11 rfl (lv_at hl 3 rfl) ?_
        refine lv_aload_n hx hb dX8_firstAgainst_12 rfl (lv_at hl 1 rfl) ?_
        refine lv_iload_n hx hb dX8_firstAgainst_13 rfl (lv_at hl 2 rfl) ?_
        refine z_Vi (n := 3) (As := [.int x3, .ref q_p1, .int x2]) (rest := []) ⟨hx, hb, hml, hown, hts⟩ (c_X8_readByRoad l dC dI cI cC cS q_this q_this_kinds q_this_sets q_this_readers q_this_eighths q_p1 q_this_weights q_this_stocks q_this_wishes _ n_p1 v_this_words v_this_roads f_this_kinds f_this_sets f_this_readers f_this_eighths f_p1 x3 x2 N _  hf) gX8_firstAgainst_X8_readByRoad rfl rfl rfl (by decide +kernel) ⟨Nat.le_of_ble_eq_true rfl, Nat.le_of_ble_eq_true rfl⟩ hK hP hD hS hA 0 7 rfl rfl rfl hl.1 rfl (Nat.le_of_ble_eq_true rfl) dX8_firstAgainst_14 ⟨Nat.zero_le _, Nat.zero_le _⟩ [0, 1, 2, 3, 4, 6] [5] (([(q_this_wishes, .inl (cI, 6, .inl f_this_wishes))] : va_W)) rfl rfl (by decide) (by decide) (by decide) (fun u => (zW_X8_firstAgainst cI cC cS q_this q_this_kinds q_this_sets q_this_readers q_this_eighths q_this_wishes q_p1 q_this_weights q_this_stocks n_p1 v_this_words v_this_roads f_this_kinds f_this_sets f_this_readers f_this_eighths f_this_wishes f_p1)) [1, 2, 3, 4, 5, 0, 6] (fun u => rfl) (by decide) (fun r2 u2 H locs hf hP hD hS => ?_)
        have hP : va_P (dC, dI) vwCl (zW_X8_firstAgainst cI cC cS q_this q_this_kinds q_this_sets q_this_readers q_this_eighths q_this_wishes q_p1 q_this_weights q_this_stocks n_p1 v_this_words v_this_roads f_this_kinds f_this_sets f_this_readers f_this_eighths f_this_wishes f_p1) H := hP
        have hD : va_D A (zW_X8_firstAgainst cI cC cS q_this q_this_kinds q_this_sets q_this_readers q_this_eighths q_this_wishes q_p1 q_this_weights q_this_stocks n_p1 v_this_words v_this_roads f_this_kinds f_this_sets f_this_readers f_this_eighths f_this_wishes f_p1) := hD
        refine lv_aload_n hx hb dX8_firstAgainst_17 rfl (lv_at hl 0 rfl) ?_
        refine va_get (D := (dC, dI)) (ci := 7) (v := .ref q_this_wishes) (C := RX8) (T := TX8) (N := 9) hx hb hts inX8 hown hK hP 0 rfl rfl 7 (by decide) lk2 (fun _ h9 => h9) rfl dX8_firstAgainst_18 ?_
        refine lv_iload_n hx hb dX8_firstAgainst_21 rfl (lv_at hl 3 rfl) ?_
        refine va_iald hx hb hK hP 5 0 rfl rfl hf.1 dX8_firstAgainst_22 ?_
        replace hf := hf.2
        refine lv_icmp_eq (tgt := 28) hx hb dX8_firstAgainst_23 (by decide) (fun c3 => ?_) (fun c3 => ?_)
        · replace hf := hf.1 c3
          refine lv_iinc (v := (x3 + 1)) (lv' := [(3, .int (x3 + 1)), (0, .ref q_this), (1, .ref q_p1), (2, .int x2)]) hx hb dX8_firstAgainst_28 hl (k := 3) rfl (by rfl) (by decide) rfl (fun ls hl => ?_)
          refine lv_goto (tgt := 2) hx hb dX8_firstAgainst_31 (by decide) ?_
          exact ih2 (x3 + 1) _ _ _ hP hD hS (lv_sub hl [1, 2, 3, 0] rfl) hf
        · replace hf := hf.2 c3
          refine lv_iload_n hx hb dX8_firstAgainst_26 rfl (lv_at hl 3 rfl) ?_
          exact z_iret hx hb hr hlocks () hf hK hP hD hS dX8_firstAgainst_27
  unfold wp_X8_firstAgainst at hf
  refine lv_iconst (v := 0) hx hb dX8_firstAgainst_0 (by decide) ?_
  refine lv_istore_n (lv' := [(3, .int 0), (0, .ref q_this), (1, .ref q_p1), (2, .int x2)]) hx hb dX8_firstAgainst_1 rfl hl (by decide) rfl (fun ls hl => ?_)
  exact L2  N 0 _ _ _ hP hD hS (lv_sub hl [1, 2, 3, 0] rfl) hf
def lp_X8_oneMeaning_13 (N : Nat) (n_p1 : Nat) (x2 : Int32) (x3 : Int32) (v_this_words : Int32) (f_this_kinds : Nat → Int32) (f_this_sets : Nat → Int32) (f_p1 : Nat → Int32) (Φ : Int32 → Prop) : Nat → Int32 → Int32 → Prop
  | 0, _, _ => False
  | n + 1, x4, x5 => 
    ((x2 ≤ x5 → Φ x4) ∧
     (¬ (x2 ≤ x5) → ((x4 = 16 → Φ x4) ∧
     (¬ (x4 = 16) → wp_X8_meaning N n_p1 x2 x5 x3 v_this_words f_this_kinds f_this_sets f_p1 (fun r3 => 
     ((r3 = x4 → (lp_X8_oneMeaning_13 N n_p1 x2 x3 v_this_words f_this_kinds f_this_sets f_p1 Φ n) x4 (x5 + 1)) ∧
     (¬ (r3 = x4) → (lp_X8_oneMeaning_13 N n_p1 x2 x3 v_this_words f_this_kinds f_this_sets f_p1 Φ n) 16 (x5 + 1))))))))
def wp_X8_oneMeaning (N : Nat) (n_p1 : Nat) (x2 : Int32) (x3 : Int32) (v_this_words : Int32) (f_this_kinds : Nat → Int32) (f_this_sets : Nat → Int32) (f_p1 : Nat → Int32) (Φ : Int32 → Prop) : Prop := 
    wp_X8_meaning N n_p1 x2 0 x3 v_this_words f_this_kinds f_this_sets f_p1 (fun r1 => 
     lp_X8_oneMeaning_13 N n_p1 x2 x3 v_this_words f_this_kinds f_this_sets f_p1 Φ N r1 1)
abbrev zW_X8_oneMeaning (cI cC cS : ClassId) (q_this : Nat) (q_this_kinds : Nat) (q_this_sets : Nat) (q_p1 : Nat) (q_this_weights : Nat) (q_this_stocks : Nat) (q_this_readers : Nat) (q_this_eighths : Nat) (q_this_wishes : Nat) (n_p1 : Nat) (v_this_words : Int32) (v_this_roads : Int32) (f_this_kinds : Nat → Int32) (f_this_sets : Nat → Int32) (f_p1 : Nat → Int32) : va_W := [(q_this, .inr (7, [.ref q_this_kinds, .ref q_this_sets, .ref q_this_weights, .ref q_this_stocks, .int v_this_words, .ref q_this_readers, .ref q_this_eighths, .ref q_this_wishes, .int v_this_roads])),
  (q_this_kinds, .inl (cI, 6, .inl f_this_kinds)),
  (q_this_sets, .inl (cI, 6, .inl f_this_sets)),
  (q_p1, .inl (cI, n_p1, .inl f_p1))]
abbrev zr_X8_oneMeaning : Room := { frames := 2, cells := 0, slots := 0, locals := 56 }
set_option maxHeartbeats 4000000 in
set_option maxRecDepth 100000 in
theorem c_X8_oneMeaning (l : Launch) (dC : Nat → ClassId) (dI : Nat → Nat → Nat) (cI cC cS : ClassId) (q_this : Nat) (q_this_kinds : Nat) (q_this_sets : Nat) (q_p1 : Nat) (q_this_weights : Nat) (q_this_stocks : Nat) (q_this_readers : Nat) (q_this_eighths : Nat) (q_this_wishes : Nat) (sz : Nat) (n_p1 : Nat) (v_this_words : Int32) (v_this_roads : Int32) (f_this_kinds : Nat → Int32) (f_this_sets : Nat → Int32) (f_p1 : Nat → Int32) (x2 : Int32) (x3 : Int32) (N : Nat) (Φ : Int32 → Prop)  (hf : wp_X8_oneMeaning N n_p1 x2 x3 v_this_words f_this_kinds f_this_sets f_p1 Φ) : Met l yX8_oneMeaning wsX8_oneMeaning zr_X8_oneMeaning (zPc (dC, dI) (zT cI cC cS) [.ref q_this, .ref q_p1, .int x2, .int x3] sz (zW_X8_oneMeaning cI cC cS q_this q_this_kinds q_this_sets q_p1 q_this_weights q_this_stocks q_this_readers q_this_eighths q_this_wishes n_p1 v_this_words v_this_roads f_this_kinds f_this_sets f_p1)) (zQi (dC, dI) (zT cI cC cS) (va_A (zW_X8_oneMeaning cI cC cS q_this q_this_kinds q_this_sets q_p1 q_this_weights q_this_stocks q_this_readers q_this_eighths q_this_wishes n_p1 v_this_words v_this_roads f_this_kinds f_this_sets f_p1) sz) (fun (r : Int32) (u : Unit) => Φ r) (fun u => (zW_X8_oneMeaning cI cC cS q_this q_this_kinds q_this_sets q_p1 q_this_weights q_this_stocks q_this_readers q_this_eighths q_this_wishes n_p1 v_this_words v_this_roads f_this_kinds f_this_sets f_p1))) 0 0 (va_A (zW_X8_oneMeaning cI cC cS q_this q_this_kinds q_this_sets q_p1 q_this_weights q_this_stocks q_this_readers q_this_eighths q_this_wishes n_p1 v_this_words v_this_roads f_this_kinds f_this_sets f_p1) sz) := by
  refine Met.ofW (cc := cX8_oneMeaning) (maxL := 6) (ret := (some .int)) (by decide) rfl ?_
  intro p e s m args below meth c s₁ B hml hv
  obtain ⟨rfl, hsz, hP, hK, hD0⟩ := hv
  have hx := B.exec
  have hb := B.bytes
  have hr := B.returns
  have hts := atoms_spec (ws := wsX8_oneMeaning) B.pre
  have hown : s.vm.findClass RX8 = some m.cls := findClass_of_methodNamed B.named
  have hlocks := B.notSynchronized
  subst hsz
  have hD := hD0.self (sz := s.heap.size)
  have hA : ∀ q : Nat, s.heap.size ≤ q → va_A (zW_X8_oneMeaning cI cC cS q_this q_this_kinds q_this_sets q_p1 q_this_weights q_this_stocks q_this_readers q_this_eighths q_this_wishes n_p1 v_this_words v_this_roads f_this_kinds f_this_sets f_p1) s.heap.size q := fun q h => Or.inr h
  generalize va_A (zW_X8_oneMeaning cI cC cS q_this q_this_kinds q_this_sets q_p1 q_this_weights q_this_stocks q_this_readers q_this_eighths q_this_wishes n_p1 v_this_words v_this_roads f_this_kinds f_this_sets f_p1) s.heap.size = A at hD hA ⊢
  have hS : va_S A s.heap s.heap [] := va_S.rf
  have hl := lv_entry ([.ref q_this, .ref q_p1, .int x2, .int x3]) (n := 6) (Nat.le_of_ble_eq_true rfl)
  rw [lg_entry_eq]
  generalize (lg_sl ([.ref q_this, .ref q_p1, .int x2, .int x3]) ++ List.replicate (6 - (lg_sl ([.ref q_this, .ref q_p1, .int x2, .int x3])).length) Slot.unset).toArray = ls at hl ⊢
  have hl : lv_has ls 6 [(0, .ref q_this), (1, .ref q_p1), (2, .int x2), (3, .int x3)] := hl
  have L13 : ∀ (n13 : Nat) (x4 : Int32) (x5 : Int32), ∀ (H : Heap) (locs : List Loc) (ls : Array Slot), va_P (dC, dI) vwCl (zW_X8_oneMeaning cI cC cS q_this q_this_kinds q_this_sets q_p1 q_this_weights q_this_stocks q_this_readers q_this_eighths q_this_wishes n_p1 v_this_words v_this_roads f_this_kinds f_this_sets f_p1) H → va_D A (zW_X8_oneMeaning cI cC cS q_this q_this_kinds q_this_sets q_p1 q_this_weights q_this_stocks q_this_readers q_this_eighths q_this_wishes n_p1 v_this_words v_this_roads f_this_kinds f_this_sets f_p1) → va_S A s.heap H locs → lv_has ls 6 [(0, .ref q_this), (1, .ref q_p1), (2, .int x2), (3, .int x3), (4, .int x4), (5, .int x5)] → lp_X8_oneMeaning_13 N n_p1 x2 x3 v_this_words f_this_kinds f_this_sets f_p1 Φ n13 x4 x5 → W p l e (headSpec wsX8_oneMeaning zr_X8_oneMeaning).room s m ([.ref q_this, .ref q_p1, .int x2, .int x3] : List Value).toArray below meth c H locs 0 0 (MQ below (zQi (dC, dI) (zT cI cC cS) A (fun (r : Int32) (u : Unit) => Φ r) (fun u => (zW_X8_oneMeaning cI cC cS q_this q_this_kinds q_this_sets q_p1 q_this_weights q_this_stocks q_this_readers q_this_eighths q_this_wishes n_p1 v_this_words v_this_roads f_this_kinds f_this_sets f_p1))) ([.ref q_this, .ref q_p1, .int x2, .int x3] : List Value).toArray s 0 0 A) (F0 m 13 ls []) := by
    intro n13
    induction n13 with
    | zero =>
      intro x4 x5 H locs ls hP hD hS hl hf
      exact absurd hf (by rw [lp_X8_oneMeaning_13]; exact id)
    | succ n13 ih13 =>
      intro x4 x5 H locs ls hP hD hS hl hf
      rw [lp_X8_oneMeaning_13] at hf
      refine lv_iload hx hb dX8_oneMeaning_13 (lv_at hl 5 rfl) ?_
      refine lv_iload_n hx hb dX8_oneMeaning_15 rfl (lv_at hl 2 rfl) ?_
      refine lv_icmp_ge (tgt := 50) hx hb dX8_oneMeaning_16 (by decide) (fun c1 => ?_) (fun c1 => ?_)
      · replace hf := hf.1 c1
        refine lv_iload hx hb dX8_oneMeaning_50 (lv_at hl 4 rfl) ?_
        exact z_iret hx hb hr hlocks () hf hK hP hD hS dX8_oneMeaning_52
      · replace hf := hf.2 c1
        refine lv_iload hx hb dX8_oneMeaning_19 (lv_at hl 4 rfl) ?_
        refine lv_bipush (v := 16) hx hb dX8_oneMeaning_21 (by decide) ?_
        refine lv_icmp_eq (tgt := 50) hx hb dX8_oneMeaning_23 (by decide) (fun c2 => ?_) (fun c2 => ?_)
        · replace hf := hf.1 c2
          refine lv_iload hx hb dX8_oneMeaning_50 (lv_at hl 4 rfl) ?_
          exact z_iret hx hb hr hlocks () hf hK hP hD hS dX8_oneMeaning_52
        · replace hf := hf.2 c2
          refine lv_aload_n hx hb dX8_oneMeaning_26 rfl (lv_at hl 0 rfl) ?_
          refine lv_aload_n hx hb dX8_oneMeaning_27 rfl (lv_at hl 1 rfl) ?_
          refine lv_iload_n hx hb dX8_oneMeaning_28 rfl (lv_at hl 2 rfl) ?_
          refine lv_iload hx hb dX8_oneMeaning_29 (lv_at hl 5 rfl) ?_
          refine lv_iload_n hx hb dX8_oneMeaning_31 rfl (lv_at hl 3 rfl) ?_
          refine z_Vi (n := 4) (As := [.ref q_p1, .int x2, .int x5, .int x3]) (rest := []) ⟨hx, hb, hml, hown, hts⟩ (c_X8_meaning l dC dI cI cC cS q_this q_this_kinds q_this_sets q_p1 q_this_weights q_this_stocks q_this_readers q_this_eighths q_this_wishes _ n_p1 v_this_words v_this_roads f_this_kinds f_this_sets f_p1 x2 x5 x3 N _  hf) gX8_oneMeaning_X8_meaning rfl rfl rfl (by decide +kernel) ⟨Nat.le_of_ble_eq_true rfl, Nat.le_of_ble_eq_true rfl⟩ hK hP hD hS hA 0 7 rfl rfl rfl hl.1 rfl (Nat.le_of_ble_eq_true rfl) dX8_oneMeaning_32 ⟨Nat.zero_le _, Nat.zero_le _⟩ [0, 1, 2, 3] [] (([] : va_W)) rfl rfl (by decide) (by decide) (by decide) (fun u => (zW_X8_oneMeaning cI cC cS q_this q_this_kinds q_this_sets q_p1 q_this_weights q_this_stocks q_this_readers q_this_eighths q_this_wishes n_p1 v_this_words v_this_roads f_this_kinds f_this_sets f_p1)) [0, 1, 2, 3] (fun u => rfl) (by decide) (fun r3 u3 H locs hf hP hD hS => ?_)
          have hP : va_P (dC, dI) vwCl (zW_X8_oneMeaning cI cC cS q_this q_this_kinds q_this_sets q_p1 q_this_weights q_this_stocks q_this_readers q_this_eighths q_this_wishes n_p1 v_this_words v_this_roads f_this_kinds f_this_sets f_p1) H := hP
          have hD : va_D A (zW_X8_oneMeaning cI cC cS q_this q_this_kinds q_this_sets q_p1 q_this_weights q_this_stocks q_this_readers q_this_eighths q_this_wishes n_p1 v_this_words v_this_roads f_this_kinds f_this_sets f_p1) := hD
          refine lv_iload hx hb dX8_oneMeaning_35 (lv_at hl 4 rfl) ?_
          refine lv_icmp_eq (tgt := 44) hx hb dX8_oneMeaning_37 (by decide) (fun c4 => ?_) (fun c4 => ?_)
          · replace hf := hf.1 c4
            refine lv_iinc (v := (x5 + 1)) (lv' := [(5, .int (x5 + 1)), (0, .ref q_this), (1, .ref q_p1), (2, .int x2), (3, .int x3), (4, .int x4)]) hx hb dX8_oneMeaning_44 hl (k := 5) rfl (by rfl) (by decide) rfl (fun ls hl => ?_)
            refine lv_goto (tgt := 13) hx hb dX8_oneMeaning_47 (by decide) ?_
            exact ih13 x4 (x5 + 1) _ _ _ hP hD hS (lv_sub hl [1, 2, 3, 4, 5, 0] rfl) hf
          · replace hf := hf.2 c4
            refine lv_bipush (v := 16) hx hb dX8_oneMeaning_40 (by decide) ?_
            refine lv_istore (lv' := [(4, .int 16), (0, .ref q_this), (1, .ref q_p1), (2, .int x2), (3, .int x3), (5, .int x5)]) hx hb dX8_oneMeaning_42 hl (by decide) rfl (fun ls hl => ?_)
            refine lv_iinc (v := (x5 + 1)) (lv' := [(5, .int (x5 + 1)), (4, .int 16), (0, .ref q_this), (1, .ref q_p1), (2, .int x2), (3, .int x3)]) hx hb dX8_oneMeaning_44 hl (k := 5) rfl (by rfl) (by decide) rfl (fun ls hl => ?_)
            refine lv_goto (tgt := 13) hx hb dX8_oneMeaning_47 (by decide) ?_
            exact ih13 16 (x5 + 1) _ _ _ hP hD hS (lv_sub hl [2, 3, 4, 5, 1, 0] rfl) hf
  unfold wp_X8_oneMeaning at hf
  refine lv_aload_n hx hb dX8_oneMeaning_0 rfl (lv_at hl 0 rfl) ?_
  refine lv_aload_n hx hb dX8_oneMeaning_1 rfl (lv_at hl 1 rfl) ?_
  refine lv_iload_n hx hb dX8_oneMeaning_2 rfl (lv_at hl 2 rfl) ?_
  refine lv_iconst (v := 0) hx hb dX8_oneMeaning_3 (by decide) ?_
  refine lv_iload_n hx hb dX8_oneMeaning_4 rfl (lv_at hl 3 rfl) ?_
  refine z_Vi (n := 4) (As := [.ref q_p1, .int x2, .int 0, .int x3]) (rest := []) ⟨hx, hb, hml, hown, hts⟩ (c_X8_meaning l dC dI cI cC cS q_this q_this_kinds q_this_sets q_p1 q_this_weights q_this_stocks q_this_readers q_this_eighths q_this_wishes _ n_p1 v_this_words v_this_roads f_this_kinds f_this_sets f_p1 x2 0 x3 N _  hf) gX8_oneMeaning_X8_meaning rfl rfl rfl (by decide +kernel) ⟨Nat.le_of_ble_eq_true rfl, Nat.le_of_ble_eq_true rfl⟩ hK hP hD hS hA 0 7 rfl rfl rfl hl.1 rfl (Nat.le_of_ble_eq_true rfl) dX8_oneMeaning_5 ⟨Nat.zero_le _, Nat.zero_le _⟩ [0, 1, 2, 3] [] (([] : va_W)) rfl rfl (by decide) (by decide) (by decide) (fun u => (zW_X8_oneMeaning cI cC cS q_this q_this_kinds q_this_sets q_p1 q_this_weights q_this_stocks q_this_readers q_this_eighths q_this_wishes n_p1 v_this_words v_this_roads f_this_kinds f_this_sets f_p1)) [0, 1, 2, 3] (fun u => rfl) (by decide) (fun r1 u1 H locs hf hP hD hS => ?_)
  have hP : va_P (dC, dI) vwCl (zW_X8_oneMeaning cI cC cS q_this q_this_kinds q_this_sets q_p1 q_this_weights q_this_stocks q_this_readers q_this_eighths q_this_wishes n_p1 v_this_words v_this_roads f_this_kinds f_this_sets f_p1) H := hP
  have hD : va_D A (zW_X8_oneMeaning cI cC cS q_this q_this_kinds q_this_sets q_p1 q_this_weights q_this_stocks q_this_readers q_this_eighths q_this_wishes n_p1 v_this_words v_this_roads f_this_kinds f_this_sets f_p1) := hD
  refine lv_istore (lv' := [(4, .int r1), (0, .ref q_this), (1, .ref q_p1), (2, .int x2), (3, .int x3)]) hx hb dX8_oneMeaning_8 hl (by decide) rfl (fun ls hl => ?_)
  refine lv_iconst (v := 1) hx hb dX8_oneMeaning_10 (by decide) ?_
  refine lv_istore (lv' := [(5, .int 1), (4, .int r1), (0, .ref q_this), (1, .ref q_p1), (2, .int x2), (3, .int x3)]) hx hb dX8_oneMeaning_11 hl (by decide) rfl (fun ls hl => ?_)
  exact L13  N r1 1 _ _ _ hP hD hS (lv_sub hl [2, 3, 4, 5, 1, 0] rfl) hf
