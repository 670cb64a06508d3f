def wp_J0_isLatin1_aae02 (N : Nat) (i0 : Nat)  (Φ : Int32 → Prop) : Prop := 
    Φ 1
abbrev zW_J0_isLatin1_aae02 (cI cC cS : ClassId)  : va_W := []
abbrev zr_J0_isLatin1_aae02 : Room := { frames := 0, cells := 0, slots := 0, locals := 0 }
set_option maxHeartbeats 4000000 in
set_option maxRecDepth 100000 in
theorem c_J0_isLatin1_aae02 (l : Launch) (dC : Nat → ClassId) (dI : Nat → Nat → Nat) (cI cC cS : ClassId) (adK adV : Nat → Nat) (fm : Value)  (sz : Nat) (i0 : Nat) (hi0 : i0 < 7) (N : Nat) (Φ : Int32 → Prop)  (hf : wp_J0_isLatin1_aae02 N i0 Φ) : Met l yJ0_isLatin1_aae02 wsJ0_isLatin1_aae02 zr_J0_isLatin1_aae02 (zPcS (dC, dI) (zT cI cC cS) adK adV fm [.ref (adK i0)] sz (zW_J0_isLatin1_aae02 cI cC cS )) (zQi (dC, dI) (zT cI cC cS) (va_A (zW_J0_isLatin1_aae02 cI cC cS ) sz) (fun (r : Int32) (u : Unit) => Φ r) (fun u => (zW_J0_isLatin1_aae02 cI cC cS ))) 0 0 (va_A (zW_J0_isLatin1_aae02 cI cC cS ) sz) := by
  refine Met.ofW (cc := cJ0_isLatin1_aae02) (maxL := 1) (ret := (some .boolean)) (by decide) rfl ?_
  intro p e s m args below meth c s₁ B hml hv
  obtain ⟨rfl, hsz, hP, hK, hD0, hZ⟩ := hv
  have hx := B.exec
  have hb := B.bytes
  have hr := B.returns
  have hts := atoms_spec (ws := wsJ0_isLatin1_aae02) B.pre
  have hown : s.vm.findClass RJ0 = some m.cls := findClass_of_methodNamed B.named
  have hlocks := B.notSynchronized
  subst hsz
  have hD := hD0.self (sz := s.heap.size)
  have hA : ∀ q : Nat, s.heap.size ≤ q → va_A (zW_J0_isLatin1_aae02 cI cC cS ) s.heap.size q := fun q h => Or.inr h
  generalize va_A (zW_J0_isLatin1_aae02 cI cC cS ) s.heap.size = A at hD hA hZ ⊢
  have hS : va_S A s.heap s.heap [] := va_S.rf
  have hl := lv_entry ([.ref (adK i0)]) (n := 1) (Nat.le_of_ble_eq_true rfl)
  rw [lg_entry_eq]
  generalize (lg_sl ([.ref (adK i0)]) ++ List.replicate (1 - (lg_sl ([.ref (adK i0)])).length) Slot.unset).toArray = ls at hl ⊢
  have hl : lv_has ls 1 [(0, .ref (adK i0))] := hl
  have lk1 := hts (.fieldLink RJ0 38 "java/lang/String" "COMPACT_STRINGS" "Z") (List.mem_of_getElem? (i := 1) rfl)
  have lk2 := hts (.fieldLink RJ0 15 "java/lang/String" "coder" "B") (List.mem_of_getElem? (i := 2) rfl)
  unfold wp_J0_isLatin1_aae02 at hf
  refine va_gets hx hb hZ.2.2.1 hS hown lk1 (fun _ h9 => h9) dJ0_isLatin1_aae02_0 ?_
  refine lv_if_eq (tgt := 17) hx hb dJ0_isLatin1_aae02_3 (by decide) (fun c9 => absurd c9 (by decide)) (fun _ => ?_)
  refine lv_aload_n hx hb dJ0_isLatin1_aae02_6 rfl (lv_at hl 0 rfl) ?_
  refine vk_getf hx hb (hZ.1.1 i0 hi0).2.1 hS hown lk2 (fun _ h9 => h9) dJ0_isLatin1_aae02_7 ?_
  refine lv_if_ne (tgt := 17) hx hb dJ0_isLatin1_aae02_10 (by decide) (fun c9 => absurd c9 (by decide)) (fun _ => ?_)
  refine lv_iconst (v := 1) hx hb dJ0_isLatin1_aae02_13 (by decide) ?_
  refine lv_goto (tgt := 18) hx hb dJ0_isLatin1_aae02_14 (by decide) ?_
  exact z_zret hx hb hr rfl hlocks () hf hK hP hD hS dJ0_isLatin1_aae02_18
def wp_J0_coder_7d493 (N : Nat) (i0 : Nat)  (Φ : Int32 → Prop) : Prop := 
    Φ 0
abbrev zW_J0_coder_7d493 (cI cC cS : ClassId)  : va_W := []
abbrev zr_J0_coder_7d493 : Room := { frames := 0, cells := 0, slots := 0, locals := 0 }
set_option maxHeartbeats 4000000 in
set_option maxRecDepth 100000 in
theorem c_J0_coder_7d493 (l : Launch) (dC : Nat → ClassId) (dI : Nat → Nat → Nat) (cI cC cS : ClassId) (adK adV : Nat → Nat) (fm : Value)  (sz : Nat) (i0 : Nat) (hi0 : i0 < 7) (N : Nat) (Φ : Int32 → Prop)  (hf : wp_J0_coder_7d493 N i0 Φ) : Met l yJ0_coder_7d493 wsJ0_coder_7d493 zr_J0_coder_7d493 (zPcS (dC, dI) (zT cI cC cS) adK adV fm [.ref (adK i0)] sz (zW_J0_coder_7d493 cI cC cS )) (zQi (dC, dI) (zT cI cC cS) (va_A (zW_J0_coder_7d493 cI cC cS ) sz) (fun (r : Int32) (u : Unit) => Φ r) (fun u => (zW_J0_coder_7d493 cI cC cS ))) 0 0 (va_A (zW_J0_coder_7d493 cI cC cS ) sz) := by
  refine Met.ofW (cc := cJ0_coder_7d493) (maxL := 1) (ret := (some .byte)) (by decide) rfl ?_
  intro p e s m args below meth c s₁ B hml hv
  obtain ⟨rfl, hsz, hP, hK, hD0, hZ⟩ := hv
  have hx := B.exec
  have hb := B.bytes
  have hr := B.returns
  have hts := atoms_spec (ws := wsJ0_coder_7d493) B.pre
  have hown : s.vm.findClass RJ0 = some m.cls := findClass_of_methodNamed B.named
  have hlocks := B.notSynchronized
  subst hsz
  have hD := hD0.self (sz := s.heap.size)
  have hA : ∀ q : Nat, s.heap.size ≤ q → va_A (zW_J0_coder_7d493 cI cC cS ) s.heap.size q := fun q h => Or.inr h
  generalize va_A (zW_J0_coder_7d493 cI cC cS ) s.heap.size = A at hD hA hZ ⊢
  have hS : va_S A s.heap s.heap [] := va_S.rf
  have hl := lv_entry ([.ref (adK i0)]) (n := 1) (Nat.le_of_ble_eq_true rfl)
  rw [lg_entry_eq]
  generalize (lg_sl ([.ref (adK i0)]) ++ List.replicate (1 - (lg_sl ([.ref (adK i0)])).length) Slot.unset).toArray = ls at hl ⊢
  have hl : lv_has ls 1 [(0, .ref (adK i0))] := hl
  have lk1 := hts (.fieldLink RJ0 38 "java/lang/String" "COMPACT_STRINGS" "Z") (List.mem_of_getElem? (i := 1) rfl)
  have lk2 := hts (.fieldLink RJ0 15 "java/lang/String" "coder" "B") (List.mem_of_getElem? (i := 2) rfl)
  unfold wp_J0_coder_7d493 at hf
  refine va_gets hx hb hZ.2.2.1 hS hown lk1 (fun _ h9 => h9) dJ0_coder_7d493_0 ?_
  refine lv_if_eq (tgt := 13) hx hb dJ0_coder_7d493_3 (by decide) (fun c9 => absurd c9 (by decide)) (fun _ => ?_)
  refine lv_aload_n hx hb dJ0_coder_7d493_6 rfl (lv_at hl 0 rfl) ?_
  refine vk_getf hx hb (hZ.1.1 i0 hi0).2.1 hS hown lk2 (fun _ h9 => h9) dJ0_coder_7d493_7 ?_
  refine lv_goto (tgt := 14) hx hb dJ0_coder_7d493_10 (by decide) ?_
  exact z_zret hx hb hr rfl hlocks () hf hK hP hD hS dJ0_coder_7d493_14
def wp_J0_length_8abf5 (N : Nat) (i0 : Nat)  (Φ : Int32 → Prop) : Prop := 
    Φ ((Int32.ofNat (lenJ.getD i0 0)) >>> (0 &&& 31))
abbrev zW_J0_length_8abf5 (cI cC cS : ClassId)  : va_W := []
abbrev zr_J0_length_8abf5 : Room := { frames := 1, cells := 0, slots := 0, locals := 20 }
set_option maxHeartbeats 4000000 in
set_option maxRecDepth 100000 in
theorem c_J0_length_8abf5 (l : Launch) (dC : Nat → ClassId) (dI : Nat → Nat → Nat) (cI cC cS : ClassId) (adK adV : Nat → Nat) (fm : Value)  (sz : Nat) (i0 : Nat) (hi0 : i0 < 7) (N : Nat) (Φ : Int32 → Prop)  (hf : wp_J0_length_8abf5 N i0 Φ) : Met l yJ0_length_8abf5 wsJ0_length_8abf5 zr_J0_length_8abf5 (zPcS (dC, dI) (zT cI cC cS) adK adV fm [.ref (adK i0)] sz (zW_J0_length_8abf5 cI cC cS )) (zQi (dC, dI) (zT cI cC cS) (va_A (zW_J0_length_8abf5 cI cC cS ) sz) (fun (r : Int32) (u : Unit) => Φ r) (fun u => (zW_J0_length_8abf5 cI cC cS ))) 0 0 (va_A (zW_J0_length_8abf5 cI cC cS ) sz) := by
  refine Met.ofW (cc := cJ0_length_8abf5) (maxL := 1) (ret := (some .int)) (by decide) rfl ?_
  intro p e s m args below meth c s₁ B hml hv
  obtain ⟨rfl, hsz, hP, hK, hD0, hZ⟩ := hv
  have hx := B.exec
  have hb := B.bytes
  have hr := B.returns
  have hts := atoms_spec (ws := wsJ0_length_8abf5) B.pre
  have hown : s.vm.findClass RJ0 = some m.cls := findClass_of_methodNamed B.named
  have hlocks := B.notSynchronized
  subst hsz
  have hD := hD0.self (sz := s.heap.size)
  have hA : ∀ q : Nat, s.heap.size ≤ q → va_A (zW_J0_length_8abf5 cI cC cS ) s.heap.size q := fun q h => Or.inr h
  generalize va_A (zW_J0_length_8abf5 cI cC cS ) s.heap.size = A at hD hA hZ ⊢
  have hS : va_S A s.heap s.heap [] := va_S.rf
  have hl := lv_entry ([.ref (adK i0)]) (n := 1) (Nat.le_of_ble_eq_true rfl)
  rw [lg_entry_eq]
  generalize (lg_sl ([.ref (adK i0)]) ++ List.replicate (1 - (lg_sl ([.ref (adK i0)])).length) Slot.unset).toArray = ls at hl ⊢
  have hl : lv_has ls 1 [(0, .ref (adK i0))] := hl
  have lk1 := hts (.fieldLink RJ0 9 "java/lang/String" "value" "[B") (List.mem_of_getElem? (i := 1) rfl)
  unfold wp_J0_length_8abf5 at hf
  refine lv_aload_n hx hb dJ0_length_8abf5_0 rfl (lv_at hl 0 rfl) ?_
  refine vk_getf hx hb (hZ.1.1 i0 hi0).2.2.1 hS hown lk1 (fun _ h9 => h9) dJ0_length_8abf5_1 ?_
  refine va_tlen hx hb (hZ.1.1 i0 hi0).2.2.2 hS (v := (Int32.ofNat (lenJ.getD i0 0))) rfl dJ0_length_8abf5_4 ?_
  refine lv_aload_n hx hb dJ0_length_8abf5_5 rfl (lv_at hl 0 rfl) ?_
  refine zs_Vi (n := 0) (As := []) (rest := [.int (Int32.ofNat (lenJ.getD i0 0))]) ⟨hx, hb, hml, hown, hts⟩ (c_J0_coder_7d493 l dC dI cI cC cS adK adV fm  _ i0 hi0  N (fun r => r = 0)  rfl) gJ0_length_8abf5_J0_coder_7d493 rfl rfl rfl (by decide +kernel) ⟨Nat.le_of_ble_eq_true rfl, Nat.le_of_ble_eq_true rfl⟩ hK hP hD hS hA hZ (vk_recv hZ.1 hi0 hS) rfl hl.1 rfl (Nat.le_of_ble_eq_true rfl) dJ0_length_8abf5_6 ⟨Nat.zero_le _, Nat.zero_le _⟩ [] [] (([] : va_W)) rfl rfl (by decide) (by decide) (by decide) (fun u => (zW_J0_length_8abf5 cI cC cS )) [] (fun u => rfl) (by decide) (fun r1 u1 H locs e1 hP hD hS => ?_)
  subst e1
  have hP : va_P (dC, dI) vwCl (zW_J0_length_8abf5 cI cC cS ) H := hP
  have hD : va_D A (zW_J0_length_8abf5 cI cC cS ) := hD
  refine lv_ishr hx hb dJ0_length_8abf5_9 ?_
  exact z_iret hx hb hr hlocks () hf hK hP hD hS dJ0_length_8abf5_10
def wp_J0_isEmpty_aae02 (N : Nat) (i0 : Nat)  (Φ : Int32 → Prop) : Prop := 
    (((Int32.ofNat (lenJ.getD i0 0)) = 0 → Φ 1) ∧
     (¬ ((Int32.ofNat (lenJ.getD i0 0)) = 0) → Φ 0))
abbrev zW_J0_isEmpty_aae02 (cI cC cS : ClassId)  : va_W := []
abbrev zr_J0_isEmpty_aae02 : Room := { frames := 0, cells := 0, slots := 0, locals := 0 }
set_option maxHeartbeats 4000000 in
set_option maxRecDepth 100000 in
theorem c_J0_isEmpty_aae02 (l : Launch) (dC : Nat → ClassId) (dI : Nat → Nat → Nat) (cI cC cS : ClassId) (adK adV : Nat → Nat) (fm : Value)  (sz : Nat) (i0 : Nat) (hi0 : i0 < 7) (N : Nat) (Φ : Int32 → Prop)  (hf : wp_J0_isEmpty_aae02 N i0 Φ) : Met l yJ0_isEmpty_aae02 wsJ0_isEmpty_aae02 zr_J0_isEmpty_aae02 (zPcS (dC, dI) (zT cI cC cS) adK adV fm [.ref (adK i0)] sz (zW_J0_isEmpty_aae02 cI cC cS )) (zQi (dC, dI) (zT cI cC cS) (va_A (zW_J0_isEmpty_aae02 cI cC cS ) sz) (fun (r : Int32) (u : Unit) => Φ r) (fun u => (zW_J0_isEmpty_aae02 cI cC cS ))) 0 0 (va_A (zW_J0_isEmpty_aae02 cI cC cS ) sz) := by
  refine Met.ofW (cc := cJ0_isEmpty_aae02) (maxL := 1) (ret := (some .boolean)) (by decide) rfl ?_
  intro p e s m args below meth c s₁ B hml hv
  obtain ⟨rfl, hsz, hP, hK, hD0, hZ⟩ := hv
  have hx := B.exec
  have hb := B.bytes
  have hr := B.returns
  have hts := atoms_spec (ws := wsJ0_isEmpty_aae02) B.pre
  have hown : s.vm.findClass RJ0 = some m.cls := findClass_of_methodNamed B.named
  have hlocks := B.notSynchronized
  subst hsz
  have hD := hD0.self (sz := s.heap.size)
  have hA : ∀ q : Nat, s.heap.size ≤ q → va_A (zW_J0_isEmpty_aae02 cI cC cS ) s.heap.size q := fun q h => Or.inr h
  generalize va_A (zW_J0_isEmpty_aae02 cI cC cS ) s.heap.size = A at hD hA hZ ⊢
  have hS : va_S A s.heap s.heap [] := va_S.rf
  have hl := lv_entry ([.ref (adK i0)]) (n := 1) (Nat.le_of_ble_eq_true rfl)
  rw [lg_entry_eq]
  generalize (lg_sl ([.ref (adK i0)]) ++ List.replicate (1 - (lg_sl ([.ref (adK i0)])).length) Slot.unset).toArray = ls at hl ⊢
  have hl : lv_has ls 1 [(0, .ref (adK i0))] := hl
  have lk1 := hts (.fieldLink RJ0 9 "java/lang/String" "value" "[B") (List.mem_of_getElem? (i := 1) rfl)
  unfold wp_J0_isEmpty_aae02 at hf
  refine lv_aload_n hx hb dJ0_isEmpty_aae02_0 rfl (lv_at hl 0 rfl) ?_
  refine vk_getf hx hb (hZ.1.1 i0 hi0).2.2.1 hS hown lk1 (fun _ h9 => h9) dJ0_isEmpty_aae02_1 ?_
  refine va_tlen hx hb (hZ.1.1 i0 hi0).2.2.2 hS (v := (Int32.ofNat (lenJ.getD i0 0))) rfl dJ0_isEmpty_aae02_4 ?_
  refine lv_if_ne (tgt := 12) hx hb dJ0_isEmpty_aae02_5 (by decide) (fun c1 => ?_) (fun c1 => ?_)
  · replace hf := hf.2 c1
    refine lv_iconst (v := 0) hx hb dJ0_isEmpty_aae02_12 (by decide) ?_
    exact z_zret hx hb hr rfl hlocks () hf hK hP hD hS dJ0_isEmpty_aae02_13
  · replace hf := hf.1 c1
    refine lv_iconst (v := 1) hx hb dJ0_isEmpty_aae02_8 (by decide) ?_
    refine lv_goto (tgt := 13) hx hb dJ0_isEmpty_aae02_9 (by decide) ?_
    exact z_zret hx hb hr rfl hlocks () hf hK hP hD hS dJ0_isEmpty_aae02_13
def wp_J3_checkIndex_8e157 (N : Nat) (x0 : Int32) (x1 : Int32) (Φ : Int32 → Prop) : Prop := 
    ((x0 < 0 → False) ∧
     (¬ (x0 < 0) → ((x0 < x1 → Φ x0) ∧
     (¬ (x0 < x1) → False))))
abbrev zW_J3_checkIndex_8e157 (cI cC cS : ClassId)  : va_W := []
abbrev zr_J3_checkIndex_8e157 : Room := { frames := 0, cells := 0, slots := 0, locals := 0 }
set_option maxHeartbeats 4000000 in
set_option maxRecDepth 100000 in
theorem c_J3_checkIndex_8e157 (l : Launch) (dC : Nat → ClassId) (dI : Nat → Nat → Nat) (cI cC cS : ClassId) (adK adV : Nat → Nat) (fm : Value)  (sz : Nat) (x0 : Int32) (x1 : Int32) (N : Nat) (Φ : Int32 → Prop)  (hf : wp_J3_checkIndex_8e157 N x0 x1 Φ) : Met l yJ3_checkIndex_8e157 wsJ3_checkIndex_8e157 zr_J3_checkIndex_8e157 (zPcS (dC, dI) (zT cI cC cS) adK adV fm [.int x0, .int x1, fm] sz (zW_J3_checkIndex_8e157 cI cC cS )) (zQi (dC, dI) (zT cI cC cS) (va_A (zW_J3_checkIndex_8e157 cI cC cS ) sz) (fun (r : Int32) (u : Unit) => Φ r) (fun u => (zW_J3_checkIndex_8e157 cI cC cS ))) 0 0 (va_A (zW_J3_checkIndex_8e157 cI cC cS ) sz) := by
  refine Met.ofW (cc := cJ3_checkIndex_8e157) (maxL := 3) (ret := (some .int)) (by decide) rfl ?_
  intro p e s m args below meth c s₁ B hml hv
  obtain ⟨rfl, hsz, hP, hK, hD0, hZ⟩ := hv
  rcases hZ.2.2.2.2 with rfl | ⟨tf, rfl⟩
  · have hx := B.exec
    have hb := B.bytes
    have hr := B.returns
    have hts := atoms_spec (ws := wsJ3_checkIndex_8e157) B.pre
    have hown : s.vm.findClass RJ3 = some m.cls := findClass_of_methodNamed B.named
    have hlocks := B.notSynchronized
    subst hsz
    have hD := hD0.self (sz := s.heap.size)
    have hA : ∀ q : Nat, s.heap.size ≤ q → va_A (zW_J3_checkIndex_8e157 cI cC cS ) s.heap.size q := fun q h => Or.inr h
    generalize va_A (zW_J3_checkIndex_8e157 cI cC cS ) s.heap.size = A at hD hA hZ ⊢
    have hS : va_S A s.heap s.heap [] := va_S.rf
    have hl := lv_entry ([.int x0, .int x1, .null]) (n := 3) (Nat.le_of_ble_eq_true rfl)
    rw [lg_entry_eq]
    generalize (lg_sl ([.int x0, .int x1, .null]) ++ List.replicate (3 - (lg_sl ([.int x0, .int x1, .null])).length) Slot.unset).toArray = ls at hl ⊢
    have hl : lv_has ls 3 [(0, .int x0), (1, .int x1), (2, .null)] := hl
    unfold wp_J3_checkIndex_8e157 at hf
    refine lv_iload_n hx hb dJ3_checkIndex_8e157_0 rfl (lv_at hl 0 rfl) ?_
    refine lv_if_lt (tgt := 9) hx hb dJ3_checkIndex_8e157_1 (by decide) (fun c1 => ?_) (fun c1 => ?_)
    · replace hf := hf.1 c1
      exact hf.elim
    · replace hf := hf.2 c1
      refine lv_iload_n hx hb dJ3_checkIndex_8e157_4 rfl (lv_at hl 0 rfl) ?_
      refine lv_iload_n hx hb dJ3_checkIndex_8e157_5 rfl (lv_at hl 1 rfl) ?_
      refine lv_icmp_lt (tgt := 16) hx hb dJ3_checkIndex_8e157_6 (by decide) (fun c2 => ?_) (fun c2 => ?_)
      · replace hf := hf.1 c2
        refine lv_iload_n hx hb dJ3_checkIndex_8e157_16 rfl (lv_at hl 0 rfl) ?_
        exact z_iret hx hb hr hlocks () hf hK hP hD hS dJ3_checkIndex_8e157_17
      · replace hf := hf.2 c2
        exact hf.elim
  · have hx := B.exec
    have hb := B.bytes
    have hr := B.returns
    have hts := atoms_spec (ws := wsJ3_checkIndex_8e157) B.pre
    have hown : s.vm.findClass RJ3 = some m.cls := findClass_of_methodNamed B.named
    have hlocks := B.notSynchronized
    subst hsz
    have hD := hD0.self (sz := s.heap.size)
    have hA : ∀ q : Nat, s.heap.size ≤ q → va_A (zW_J3_checkIndex_8e157 cI cC cS ) s.heap.size q := fun q h => Or.inr h
    generalize va_A (zW_J3_checkIndex_8e157 cI cC cS ) s.heap.size = A at hD hA hZ ⊢
    have hS : va_S A s.heap s.heap [] := va_S.rf
    have hl := lv_entry ([.int x0, .int x1, .ref tf]) (n := 3) (Nat.le_of_ble_eq_true rfl)
    rw [lg_entry_eq]
    generalize (lg_sl ([.int x0, .int x1, .ref tf]) ++ List.replicate (3 - (lg_sl ([.int x0, .int x1, .ref tf])).length) Slot.unset).toArray = ls at hl ⊢
    have hl : lv_has ls 3 [(0, .int x0), (1, .int x1), (2, .ref tf)] := hl
    unfold wp_J3_checkIndex_8e157 at hf
    refine lv_iload_n hx hb dJ3_checkIndex_8e157_0 rfl (lv_at hl 0 rfl) ?_
    refine lv_if_lt (tgt := 9) hx hb dJ3_checkIndex_8e157_1 (by decide) (fun c1 => ?_) (fun c1 => ?_)
    · replace hf := hf.1 c1
      exact hf.elim
    · replace hf := hf.2 c1
      refine lv_iload_n hx hb dJ3_checkIndex_8e157_4 rfl (lv_at hl 0 rfl) ?_
      refine lv_iload_n hx hb dJ3_checkIndex_8e157_5 rfl (lv_at hl 1 rfl) ?_
      refine lv_icmp_lt (tgt := 16) hx hb dJ3_checkIndex_8e157_6 (by decide) (fun c2 => ?_) (fun c2 => ?_)
      · replace hf := hf.1 c2
        refine lv_iload_n hx hb dJ3_checkIndex_8e157_16 rfl (lv_at hl 0 rfl) ?_
        exact z_iret hx hb hr hlocks () hf hK hP hD hS dJ3_checkIndex_8e157_17
      · replace hf := hf.2 c2
        exact hf.elim
def wp_J0_checkIndex_df160 (N : Nat) (x0 : Int32) (x1 : Int32) (Φ : Prop) : Prop := 
    wp_J3_checkIndex_8e157 N x0 x1 (fun r1 => 
     Φ )
abbrev zW_J0_checkIndex_df160 (cI cC cS : ClassId)  : va_W := []
abbrev zr_J0_checkIndex_df160 : Room := { frames := 1, cells := 0, slots := 0, locals := 22 }
set_option maxHeartbeats 4000000 in
set_option maxRecDepth 100000 in
theorem c_J0_checkIndex_df160 (l : Launch) (dC : Nat → ClassId) (dI : Nat → Nat → Nat) (cI cC cS : ClassId) (adK adV : Nat → Nat) (fm : Value)  (sz : Nat) (x0 : Int32) (x1 : Int32) (N : Nat) (Φ : Prop)  (hf : wp_J0_checkIndex_df160 N x0 x1 Φ) : Met l yJ0_checkIndex_df160 wsJ0_checkIndex_df160 zr_J0_checkIndex_df160 (zPcS (dC, dI) (zT cI cC cS) adK adV fm [.int x0, .int x1] sz (zW_J0_checkIndex_df160 cI cC cS )) (zQv (dC, dI) (zT cI cC cS) (va_A (zW_J0_checkIndex_df160 cI cC cS ) sz) (fun (u : Unit) => Φ ) (fun u => (zW_J0_checkIndex_df160 cI cC cS ))) 0 0 (va_A (zW_J0_checkIndex_df160 cI cC cS ) sz) := by
  refine Met.ofW (cc := cJ0_checkIndex_df160) (maxL := 2) (ret := none) (by decide) rfl ?_
  intro p e s m args below meth c s₁ B hml hv
  obtain ⟨rfl, hsz, hP, hK, hD0, hZ⟩ := hv
  have hx := B.exec
  have hb := B.bytes
  have hr := B.returns
  have hts := atoms_spec (ws := wsJ0_checkIndex_df160) B.pre
  have hown : s.vm.findClass RJ0 = some m.cls := findClass_of_methodNamed B.named
  have hlocks := B.notSynchronized
  subst hsz
  have hD := hD0.self (sz := s.heap.size)
  have hA : ∀ q : Nat, s.heap.size ≤ q → va_A (zW_J0_checkIndex_df160 cI cC cS ) s.heap.size q := fun q h => Or.inr h
  generalize va_A (zW_J0_checkIndex_df160 cI cC cS ) s.heap.size = A at hD hA hZ ⊢
  have hS : va_S A s.heap s.heap [] := va_S.rf
  have hl := lv_entry ([.int x0, .int x1]) (n := 2) (Nat.le_of_ble_eq_true rfl)
  rw [lg_entry_eq]
  generalize (lg_sl ([.int x0, .int x1]) ++ List.replicate (2 - (lg_sl ([.int x0, .int x1])).length) Slot.unset).toArray = ls at hl ⊢
  have hl : lv_has ls 2 [(0, .int x0), (1, .int x1)] := hl
  have lk1 := hts (.fieldLink RJ0 1053 "jdk/internal/util/Preconditions" "SIOOBE_FORMATTER" "Ljava/util/function/BiFunction;") (List.mem_of_getElem? (i := 1) rfl)
  unfold wp_J0_checkIndex_df160 at hf
  refine lv_iload_n hx hb dJ0_checkIndex_df160_0 rfl (lv_at hl 0 rfl) ?_
  refine lv_iload_n hx hb dJ0_checkIndex_df160_1 rfl (lv_at hl 1 rfl) ?_
  refine va_gets hx hb hZ.2.2.2.1 hS hown lk1 (fun _ h9 => h9) dJ0_checkIndex_df160_2 ?_
  refine zs_Si (n := 3) (As := [.int x0, .int x1, fm]) (rest := []) ⟨hx, hb, hml, hown, hts⟩ (c_J3_checkIndex_8e157 l dC dI cI cC cS adK adV fm  _  x0 x1 N _  hf) gJ0_checkIndex_df160_J3_checkIndex_8e157 rfl rfl rfl (by decide +kernel) ⟨Nat.le_of_ble_eq_true rfl, Nat.le_of_ble_eq_true rfl⟩ hK hP hD hS hA hZ rfl hl.1 rfl (Nat.le_of_ble_eq_true rfl) dJ0_checkIndex_df160_5 ⟨Nat.zero_le _, Nat.zero_le _⟩ [] [] (([] : va_W)) rfl rfl (by decide) (by decide) (by decide) (fun u => (zW_J0_checkIndex_df160 cI cC cS )) [] (fun u => rfl) (by decide) (fun r1 u1 H locs hf hP hD hS => ?_)
  have hP : va_P (dC, dI) vwCl (zW_J0_checkIndex_df160 cI cC cS ) H := hP
  have hD : va_D A (zW_J0_checkIndex_df160 cI cC cS ) := hD
  refine lv_pop hx hb dJ0_checkIndex_df160_8 rfl ?_
  exact z_vret hx hb hr hlocks () hf hK hP hD hS dJ0_checkIndex_df160_9
def wp_J1_charAt_3b067 (N : Nat) (i0 : Nat) (x1 : Int32) (Φ : Int32 → Prop) : Prop := 
    wp_J0_checkIndex_df160 N x1 (Int32.ofNat (lenJ.getD i0 0)) ((vp_in x1 (lenJ.getD i0 0) ∧ (narrow .char (.int ((((((bytJ.getD i0 []).getD (Int32.toNatClampNeg x1) 0) &&& 255)).toUInt32 % 65536).toInt32)) = .int ((((((bytJ.getD i0 []).getD (Int32.toNatClampNeg x1) 0) &&& 255)).toUInt32 % 65536).toInt32) ∧ Φ ((((((bytJ.getD i0 []).getD (Int32.toNatClampNeg x1) 0) &&& 255)).toUInt32 % 65536).toInt32))))
abbrev zW_J1_charAt_3b067 (cI cC cS : ClassId)  : va_W := []
abbrev zr_J1_charAt_3b067 : Room := { frames := 2, cells := 0, slots := 0, locals := 43 }
set_option maxHeartbeats 4000000 in
set_option maxRecDepth 100000 in
theorem c_J1_charAt_3b067 (l : Launch) (dC : Nat → ClassId) (dI : Nat → Nat → Nat) (cI cC cS : ClassId) (adK adV : Nat → Nat) (fm : Value)  (sz : Nat) (i0 : Nat) (hi0 : i0 < 7) (x1 : Int32) (N : Nat) (Φ : Int32 → Prop)  (hf : wp_J1_charAt_3b067 N i0 x1 Φ) : Met l yJ1_charAt_3b067 wsJ1_charAt_3b067 zr_J1_charAt_3b067 (zPcS (dC, dI) (zT cI cC cS) adK adV fm [.ref (adV i0), .int x1] sz (zW_J1_charAt_3b067 cI cC cS )) (zQi (dC, dI) (zT cI cC cS) (va_A (zW_J1_charAt_3b067 cI cC cS ) sz) (fun (r : Int32) (u : Unit) => Φ r) (fun u => (zW_J1_charAt_3b067 cI cC cS ))) 0 0 (va_A (zW_J1_charAt_3b067 cI cC cS ) sz) := by
  refine Met.ofW (cc := cJ1_charAt_3b067) (maxL := 2) (ret := (some .char)) (by decide) rfl ?_
  intro p e s m args below meth c s₁ B hml hv
  obtain ⟨rfl, hsz, hP, hK, hD0, hZ⟩ := hv
  have hx := B.exec
  have hb := B.bytes
  have hr := B.returns
  have hts := atoms_spec (ws := wsJ1_charAt_3b067) B.pre
  have hown : s.vm.findClass RJ1 = some m.cls := findClass_of_methodNamed B.named
  have hlocks := B.notSynchronized
  subst hsz
  have hD := hD0.self (sz := s.heap.size)
  have hA : ∀ q : Nat, s.heap.size ≤ q → va_A (zW_J1_charAt_3b067 cI cC cS ) s.heap.size q := fun q h => Or.inr h
  generalize va_A (zW_J1_charAt_3b067 cI cC cS ) s.heap.size = A at hD hA hZ ⊢
  have hS : va_S A s.heap s.heap [] := va_S.rf
  have hl := lv_entry ([.ref (adV i0), .int x1]) (n := 2) (Nat.le_of_ble_eq_true rfl)
  rw [lg_entry_eq]
  generalize (lg_sl ([.ref (adV i0), .int x1]) ++ List.replicate (2 - (lg_sl ([.ref (adV i0), .int x1])).length) Slot.unset).toArray = ls at hl ⊢
  have hl : lv_has ls 2 [(0, .ref (adV i0)), (1, .int x1)] := hl
  unfold wp_J1_charAt_3b067 at hf
  refine lv_iload_n hx hb dJ1_charAt_3b067_0 rfl (lv_at hl 1 rfl) ?_
  refine lv_aload_n hx hb dJ1_charAt_3b067_1 rfl (lv_at hl 0 rfl) ?_
  refine va_tlen hx hb (hZ.1.1 i0 hi0).2.2.2 hS (v := (Int32.ofNat (lenJ.getD i0 0))) rfl dJ1_charAt_3b067_2 ?_
  refine zs_Sv (n := 2) (As := [.int x1, .int (Int32.ofNat (lenJ.getD i0 0))]) (rest := []) ⟨hx, hb, hml, hown, hts⟩ (c_J0_checkIndex_df160 l dC dI cI cC cS adK adV fm  _  x1 (Int32.ofNat (lenJ.getD i0 0)) N _  hf) gJ1_charAt_3b067_J0_checkIndex_df160 rfl rfl rfl (by decide +kernel) ⟨Nat.le_of_ble_eq_true rfl, Nat.le_of_ble_eq_true rfl⟩ hK hP hD hS hA hZ rfl hl.1 rfl (Nat.le_of_ble_eq_true rfl) dJ1_charAt_3b067_3 ⟨Nat.zero_le _, Nat.zero_le _⟩ [] [] (([] : va_W)) rfl rfl (by decide) (by decide) (by decide) (fun u => (zW_J1_charAt_3b067 cI cC cS )) [] (fun u => rfl) (by decide) (fun u1 H locs hf hP hD hS => ?_)
  have hP : va_P (dC, dI) vwCl (zW_J1_charAt_3b067 cI cC cS ) H := hP
  have hD : va_D A (zW_J1_charAt_3b067 cI cC cS ) := hD
  refine lv_aload_n hx hb dJ1_charAt_3b067_6 rfl (lv_at hl 0 rfl) ?_
  refine lv_iload_n hx hb dJ1_charAt_3b067_7 rfl (lv_at hl 1 rfl) ?_
  refine va_tb hx hb (hZ.1.1 i0 hi0).2.2.2 hS hf.1 rfl dJ1_charAt_3b067_8 ?_
  replace hf := hf.2
  refine lv_sipush (v := 255) hx hb dJ1_charAt_3b067_9 (by decide) ?_
  refine lv_iand hx hb dJ1_charAt_3b067_12 ?_
  refine lv_i2c hx hb dJ1_charAt_3b067_13 rfl ?_
  exact z_zret hx hb hr hf.1 hlocks () hf.2 hK hP hD hS dJ1_charAt_3b067_14
def wp_J0_charAt_5068e (N : Nat) (i0 : Nat) (x1 : Int32) (Φ : Int32 → Prop) : Prop := 
    wp_J1_charAt_3b067 N i0 x1 (fun r2 => 
     (narrow .char (.int r2) = .int r2 ∧ Φ r2))
abbrev zW_J0_charAt_5068e (cI cC cS : ClassId)  : va_W := []
abbrev zr_J0_charAt_5068e : Room := { frames := 3, cells := 0, slots := 0, locals := 64 }
set_option maxHeartbeats 4000000 in
set_option maxRecDepth 100000 in
theorem c_J0_charAt_5068e (l : Launch) (dC : Nat → ClassId) (dI : Nat → Nat → Nat) (cI cC cS : ClassId) (adK adV : Nat → Nat) (fm : Value)  (sz : Nat) (i0 : Nat) (hi0 : i0 < 7) (x1 : Int32) (N : Nat) (Φ : Int32 → Prop)  (hf : wp_J0_charAt_5068e N i0 x1 Φ) : Met l yJ0_charAt_5068e wsJ0_charAt_5068e zr_J0_charAt_5068e (zPcS (dC, dI) (zT cI cC cS) adK adV fm [.ref (adK i0), .int x1] sz (zW_J0_charAt_5068e cI cC cS )) (zQi (dC, dI) (zT cI cC cS) (va_A (zW_J0_charAt_5068e cI cC cS ) sz) (fun (r : Int32) (u : Unit) => Φ r) (fun u => (zW_J0_charAt_5068e cI cC cS ))) 0 0 (va_A (zW_J0_charAt_5068e cI cC cS ) sz) := by
  refine Met.ofW (cc := cJ0_charAt_5068e) (maxL := 2) (ret := (some .char)) (by decide) rfl ?_
  intro p e s m args below meth c s₁ B hml hv
  obtain ⟨rfl, hsz, hP, hK, hD0, hZ⟩ := hv
  have hx := B.exec
  have hb := B.bytes
  have hr := B.returns
  have hts := atoms_spec (ws := wsJ0_charAt_5068e) B.pre
  have hown : s.vm.findClass RJ0 = some m.cls := findClass_of_methodNamed B.named
  have hlocks := B.notSynchronized
  subst hsz
  have hD := hD0.self (sz := s.heap.size)
  have hA : ∀ q : Nat, s.heap.size ≤ q → va_A (zW_J0_charAt_5068e cI cC cS ) s.heap.size q := fun q h => Or.inr h
  generalize va_A (zW_J0_charAt_5068e cI cC cS ) s.heap.size = A at hD hA hZ ⊢
  have hS : va_S A s.heap s.heap [] := va_S.rf
  have hl := lv_entry ([.ref (adK i0), .int x1]) (n := 2) (Nat.le_of_ble_eq_true rfl)
  rw [lg_entry_eq]
  generalize (lg_sl ([.ref (adK i0), .int x1]) ++ List.replicate (2 - (lg_sl ([.ref (adK i0), .int x1])).length) Slot.unset).toArray = ls at hl ⊢
  have hl : lv_has ls 2 [(0, .ref (adK i0)), (1, .int x1)] := hl
  have lk1 := hts (.fieldLink RJ0 9 "java/lang/String" "value" "[B") (List.mem_of_getElem? (i := 1) rfl)
  unfold wp_J0_charAt_5068e at hf
  refine lv_aload_n hx hb dJ0_charAt_5068e_0 rfl (lv_at hl 0 rfl) ?_
  refine zs_Vi (n := 0) (As := []) (rest := []) ⟨hx, hb, hml, hown, hts⟩ (c_J0_isLatin1_aae02 l dC dI cI cC cS adK adV fm  _ i0 hi0  N (fun r => r = 1)  rfl) gJ0_charAt_5068e_J0_isLatin1_aae02 rfl rfl rfl (by decide +kernel) ⟨Nat.le_of_ble_eq_true rfl, Nat.le_of_ble_eq_true rfl⟩ hK hP hD hS hA hZ (vk_recv hZ.1 hi0 hS) rfl hl.1 rfl (Nat.le_of_ble_eq_true rfl) dJ0_charAt_5068e_1 ⟨Nat.zero_le _, Nat.zero_le _⟩ [] [] (([] : va_W)) rfl rfl (by decide) (by decide) (by decide) (fun u => (zW_J0_charAt_5068e cI cC cS )) [] (fun u => rfl) (by decide) (fun r1 u1 H locs e1 hP hD hS => ?_)
  subst e1
  have hP : va_P (dC, dI) vwCl (zW_J0_charAt_5068e cI cC cS ) H := hP
  have hD : va_D A (zW_J0_charAt_5068e cI cC cS ) := hD
  refine lv_if_eq (tgt := 16) hx hb dJ0_charAt_5068e_4 (by decide) (fun c9 => absurd c9 (by decide)) (fun _ => ?_)
  refine lv_aload_n hx hb dJ0_charAt_5068e_7 rfl (lv_at hl 0 rfl) ?_
  refine vk_getf hx hb (hZ.1.1 i0 hi0).2.2.1 hS hown lk1 (fun _ h9 => h9) dJ0_charAt_5068e_8 ?_
  refine lv_iload_n hx hb dJ0_charAt_5068e_11 rfl (lv_at hl 1 rfl) ?_
  refine zs_Si (n := 2) (As := [.ref (adV i0), .int x1]) (rest := []) ⟨hx, hb, hml, hown, hts⟩ (c_J1_charAt_3b067 l dC dI cI cC cS adK adV fm  _ i0 hi0 x1 N _  hf) gJ0_charAt_5068e_J1_charAt_3b067 rfl rfl rfl (by decide +kernel) ⟨Nat.le_of_ble_eq_true rfl, Nat.le_of_ble_eq_true rfl⟩ hK hP hD hS hA hZ rfl hl.1 rfl (Nat.le_of_ble_eq_true rfl) dJ0_charAt_5068e_12 ⟨Nat.zero_le _, Nat.zero_le _⟩ [] [] (([] : va_W)) rfl rfl (by decide) (by decide) (by decide) (fun u => (zW_J0_charAt_5068e cI cC cS )) [] (fun u => rfl) (by decide) (fun r2 u2 H locs hf hP hD hS => ?_)
  have hP : va_P (dC, dI) vwCl (zW_J0_charAt_5068e cI cC cS ) H := hP
  have hD : va_D A (zW_J0_charAt_5068e cI cC cS ) := hD
  exact z_zret hx hb hr hf.1 hlocks () hf.2 hK hP hD hS dJ0_charAt_5068e_15
def wp_J1_canEncode_9a6ad (N : Nat) (x0 : Int32) (Φ : Int32 → Prop) : Prop := 
    ((x0 < 0 → Φ 0) ∧
     (¬ (x0 < 0) → ((255 < x0 → Φ 0) ∧
     (¬ (255 < x0) → Φ 1))))
abbrev zW_J1_canEncode_9a6ad (cI cC cS : ClassId)  : va_W := []
abbrev zr_J1_canEncode_9a6ad : Room := { frames := 0, cells := 0, slots := 0, locals := 0 }
set_option maxHeartbeats 4000000 in
set_option maxRecDepth 100000 in
theorem c_J1_canEncode_9a6ad (l : Launch) (dC : Nat → ClassId) (dI : Nat → Nat → Nat) (cI cC cS : ClassId)  (sz : Nat) (x0 : Int32) (N : Nat) (Φ : Int32 → Prop)  (hf : wp_J1_canEncode_9a6ad N x0 Φ) : Met l yJ1_canEncode_9a6ad wsJ1_canEncode_9a6ad zr_J1_canEncode_9a6ad (zPc (dC, dI) (zT cI cC cS) [.int x0] sz (zW_J1_canEncode_9a6ad cI cC cS )) (zQi (dC, dI) (zT cI cC cS) (va_A (zW_J1_canEncode_9a6ad cI cC cS ) sz) (fun (r : Int32) (u : Unit) => Φ r) (fun u => (zW_J1_canEncode_9a6ad cI cC cS ))) 0 0 (va_A (zW_J1_canEncode_9a6ad cI cC cS ) sz) := by
  refine Met.ofW (cc := cJ1_canEncode_9a6ad) (maxL := 1) (ret := (some .boolean)) (by decide) rfl ?_
  intro p e s m args below meth c s₁ B hml hv
  obtain ⟨rfl, hsz, hP, hK, hD0⟩ := hv
  have hx := B.exec
  have hb := B.bytes
  have hr := B.returns
  have hts := atoms_spec (ws := wsJ1_canEncode_9a6ad) B.pre
  have hown : s.vm.findClass RJ1 = some m.cls := findClass_of_methodNamed B.named
  have hlocks := B.notSynchronized
  subst hsz
  have hD := hD0.self (sz := s.heap.size)
  have hA : ∀ q : Nat, s.heap.size ≤ q → va_A (zW_J1_canEncode_9a6ad cI cC cS ) s.heap.size q := fun q h => Or.inr h
  generalize va_A (zW_J1_canEncode_9a6ad cI cC cS ) s.heap.size = A at hD hA ⊢
  have hS : va_S A s.heap s.heap [] := va_S.rf
  have hl := lv_entry ([.int x0]) (n := 1) (Nat.le_of_ble_eq_true rfl)
  rw [lg_entry_eq]
  generalize (lg_sl ([.int x0]) ++ List.replicate (1 - (lg_sl ([.int x0])).length) Slot.unset).toArray = ls at hl ⊢
  have hl : lv_has ls 1 [(0, .int x0)] := hl
  unfold wp_J1_canEncode_9a6ad at hf
  refine lv_iload_n hx hb dJ1_canEncode_9a6ad_0 rfl (lv_at hl 0 rfl) ?_
  refine lv_if_lt (tgt := 15) hx hb dJ1_canEncode_9a6ad_1 (by decide) (fun c1 => ?_) (fun c1 => ?_)
  · replace hf := hf.1 c1
    refine lv_iconst (v := 0) hx hb dJ1_canEncode_9a6ad_15 (by decide) ?_
    exact z_zret hx hb hr rfl hlocks () hf hK hP hD hS dJ1_canEncode_9a6ad_16
  · replace hf := hf.2 c1
    refine lv_iload_n hx hb dJ1_canEncode_9a6ad_4 rfl (lv_at hl 0 rfl) ?_
    refine lv_sipush (v := 255) hx hb dJ1_canEncode_9a6ad_5 (by decide) ?_
    refine lv_icmp_gt (tgt := 15) hx hb dJ1_canEncode_9a6ad_8 (by decide) (fun c2 => ?_) (fun c2 => ?_)
    · replace hf := hf.1 c2
      refine lv_iconst (v := 0) hx hb dJ1_canEncode_9a6ad_15 (by decide) ?_
      exact z_zret hx hb hr rfl hlocks () hf hK hP hD hS dJ1_canEncode_9a6ad_16
    · replace hf := hf.2 c2
      refine lv_iconst (v := 1) hx hb dJ1_canEncode_9a6ad_11 (by decide) ?_
      refine lv_goto (tgt := 16) hx hb dJ1_canEncode_9a6ad_12 (by decide) ?_
      exact z_zret hx hb hr rfl hlocks () hf hK hP hD hS dJ1_canEncode_9a6ad_16
def lp_J1_indexOfChar_4cfef_7 (N : Nat) (i0 : Nat) (x3 : Int32) (x4 : Int32) (Φ : Int32 → Prop) : Nat → Int32 → Prop
  | 0, _ => False
  | n + 1, x5 => 
    ((x3 ≤ x5 → Φ (-1)) ∧
     (¬ (x3 ≤ x5) → (vp_in x5 (lenJ.getD i0 0) ∧ ((((bytJ.getD i0 []).getD (Int32.toNatClampNeg x5) 0) = x4 → Φ x5) ∧
     (¬ (((bytJ.getD i0 []).getD (Int32.toNatClampNeg x5) 0) = x4) → (lp_J1_indexOfChar_4cfef_7 N i0 x3 x4 Φ n) (x5 + 1))))))
def wp_J1_indexOfChar_4cfef (N : Nat) (i0 : Nat) (x1 : Int32) (x2 : Int32) (x3 : Int32) (Φ : Int32 → Prop) : Prop := 
    lp_J1_indexOfChar_4cfef_7 N i0 x3 ((x1).toInt8.toInt32) Φ N x2
abbrev zW_J1_indexOfChar_4cfef (cI cC cS : ClassId)  : va_W := []
abbrev zr_J1_indexOfChar_4cfef : Room := { frames := 0, cells := 0, slots := 0, locals := 0 }
set_option maxHeartbeats 4000000 in
set_option maxRecDepth 100000 in
theorem c_J1_indexOfChar_4cfef (l : Launch) (dC : Nat → ClassId) (dI : Nat → Nat → Nat) (cI cC cS : ClassId) (adK adV : Nat → Nat) (fm : Value)  (sz : Nat) (i0 : Nat) (hi0 : i0 < 7) (x1 : Int32) (x2 : Int32) (x3 : Int32) (N : Nat) (Φ : Int32 → Prop)  (hf : wp_J1_indexOfChar_4cfef N i0 x1 x2 x3 Φ) : Met l yJ1_indexOfChar_4cfef wsJ1_indexOfChar_4cfef zr_J1_indexOfChar_4cfef (zPcS (dC, dI) (zT cI cC cS) adK adV fm [.ref (adV i0), .int x1, .int x2, .int x3] sz (zW_J1_indexOfChar_4cfef cI cC cS )) (zQi (dC, dI) (zT cI cC cS) (va_A (zW_J1_indexOfChar_4cfef cI cC cS ) sz) (fun (r : Int32) (u : Unit) => Φ r) (fun u => (zW_J1_indexOfChar_4cfef cI cC cS ))) 0 0 (va_A (zW_J1_indexOfChar_4cfef cI cC cS ) sz) := by
  refine Met.ofW (cc := cJ1_indexOfChar_4cfef) (maxL := 6) (ret := (some .int)) (by decide) rfl ?_
  intro p e s m args below meth c s₁ B hml hv
  obtain ⟨rfl, hsz, hP, hK, hD0, hZ⟩ := hv
  have hx := B.exec
  have hb := B.bytes
  have hr := B.returns
  have hts := atoms_spec (ws := wsJ1_indexOfChar_4cfef) B.pre
  have hown : s.vm.findClass RJ1 = some m.cls := findClass_of_methodNamed B.named
  have hlocks := B.notSynchronized
  subst hsz
  have hD := hD0.self (sz := s.heap.size)
  have hA : ∀ q : Nat, s.heap.size ≤ q → va_A (zW_J1_indexOfChar_4cfef cI cC cS ) s.heap.size q := fun q h => Or.inr h
  generalize va_A (zW_J1_indexOfChar_4cfef cI cC cS ) s.heap.size = A at hD hA hZ ⊢
  have hS : va_S A s.heap s.heap [] := va_S.rf
  have hl := lv_entry ([.ref (adV i0), .int x1, .int x2, .int x3]) (n := 6) (Nat.le_of_ble_eq_true rfl)
  rw [lg_entry_eq]
  generalize (lg_sl ([.ref (adV i0), .int x1, .int x2, .int x3]) ++ List.replicate (6 - (lg_sl ([.ref (adV i0), .int x1, .int x2, .int x3])).length) Slot.unset).toArray = ls at hl ⊢
  have hl : lv_has ls 6 [(0, .ref (adV i0)), (1, .int x1), (2, .int x2), (3, .int x3)] := hl
  have L7 : ∀ (x4 : Int32), ∀ (n7 : Nat) (x5 : Int32), ∀ (H : Heap) (locs : List Loc) (ls : Array Slot), va_P (dC, dI) vwCl (zW_J1_indexOfChar_4cfef cI cC cS ) H → va_D A (zW_J1_indexOfChar_4cfef cI cC cS ) → va_S A s.heap H locs → lv_has ls 6 [(0, .ref (adV i0)), (3, .int x3), (4, .int x4), (5, .int x5)] → lp_J1_indexOfChar_4cfef_7 N i0 x3 x4 Φ n7 x5 → W p l e (headSpec wsJ1_indexOfChar_4cfef zr_J1_indexOfChar_4cfef).room s m ([.ref (adV i0), .int x1, .int x2, .int x3] : List Value).toArray below meth c H locs 0 0 (MQ below (zQi (dC, dI) (zT cI cC cS) A (fun (r : Int32) (u : Unit) => Φ r) (fun u => (zW_J1_indexOfChar_4cfef cI cC cS ))) ([.ref (adV i0), .int x1, .int x2, .int x3] : List Value).toArray s 0 0 A) (F0 m 7 ls []) := by
    intro x4
    intro n7
    induction n7 with
    | zero =>
      intro x5 H locs ls hP hD hS hl hf
      exact absurd hf (by rw [lp_J1_indexOfChar_4cfef_7]; exact id)
    | succ n7 ih7 =>
      intro x5 H locs ls hP hD hS hl hf
      rw [lp_J1_indexOfChar_4cfef_7] at hf
      refine lv_iload hx hb dJ1_indexOfChar_4cfef_7 (lv_at hl 3 rfl) ?_
      refine lv_iload_n hx hb dJ1_indexOfChar_4cfef_9 rfl (lv_at hl 1 rfl) ?_
      refine lv_icmp_ge (tgt := 31) hx hb dJ1_indexOfChar_4cfef_10 (by decide) (fun c1 => ?_) (fun c1 => ?_)
      · replace hf := hf.1 c1
        refine lv_iconst (v := (-1)) hx hb dJ1_indexOfChar_4cfef_31 (by decide) ?_
        exact z_iret hx hb hr hlocks () hf hK hP hD hS dJ1_indexOfChar_4cfef_32
      · replace hf := hf.2 c1
        refine lv_aload_n hx hb dJ1_indexOfChar_4cfef_13 rfl (lv_at hl 0 rfl) ?_
        refine lv_iload hx hb dJ1_indexOfChar_4cfef_14 (lv_at hl 3 rfl) ?_
        refine va_tb hx hb (hZ.1.1 i0 hi0).2.2.2 hS hf.1 rfl dJ1_indexOfChar_4cfef_16 ?_
        replace hf := hf.2
        refine lv_iload hx hb dJ1_indexOfChar_4cfef_17 (lv_at hl 2 rfl) ?_
        refine lv_icmp_ne (tgt := 25) hx hb dJ1_indexOfChar_4cfef_19 (by decide) (fun c2 => ?_) (fun c2 => ?_)
        · replace hf := hf.2 c2
          refine lv_iinc (v := (x5 + 1)) (lv' := [(5, .int (x5 + 1)), (0, .ref (adV i0)), (3, .int x3), (4, .int x4)]) hx hb dJ1_indexOfChar_4cfef_25 hl (k := 3) rfl (by rfl) (by decide) rfl (fun ls hl => ?_)
          refine lv_goto (tgt := 7) hx hb dJ1_indexOfChar_4cfef_28 (by decide) ?_
          exact ih7 (x5 + 1) _ _ _ hP hD hS (lv_sub hl [1, 2, 3, 0] rfl) hf
        · replace hf := hf.1 c2
          refine lv_iload hx hb dJ1_indexOfChar_4cfef_22 (lv_at hl 3 rfl) ?_
          exact z_iret hx hb hr hlocks () hf hK hP hD hS dJ1_indexOfChar_4cfef_24
  unfold wp_J1_indexOfChar_4cfef at hf
  refine lv_iload_n hx hb dJ1_indexOfChar_4cfef_0 rfl (lv_at hl 1 rfl) ?_
  refine lv_i2b hx hb dJ1_indexOfChar_4cfef_1 rfl ?_
  refine lv_istore (lv' := [(4, .int ((x1).toInt8.toInt32)), (0, .ref (adV i0)), (1, .int x1), (2, .int x2), (3, .int x3)]) hx hb dJ1_indexOfChar_4cfef_2 hl (by decide) rfl (fun ls hl => ?_)
  refine lv_iload_n hx hb dJ1_indexOfChar_4cfef_4 rfl (lv_at hl 3 rfl) ?_
  refine lv_istore (lv' := [(5, .int x2), (4, .int ((x1).toInt8.toInt32)), (0, .ref (adV i0)), (1, .int x1), (2, .int x2), (3, .int x3)]) hx hb dJ1_indexOfChar_4cfef_5 hl (by decide) rfl (fun ls hl => ?_)
  exact L7 ((x1).toInt8.toInt32) N x2 _ _ _ hP hD hS (lv_sub hl [2, 5, 1, 0] rfl) hf
def wp_J1_indexOf_4cfef (N : Nat) (i0 : Nat) (x1 : Int32) (x2 : Int32) (x3 : Int32) (Φ : Int32 → Prop) : Prop := 
    wp_J1_canEncode_9a6ad N x1 (fun r1 => 
     ((r1 = 0 → Φ (-1)) ∧
     (¬ (r1 = 0) → (((if x2 < 0 then 0 else x2) < (if (Int32.ofNat (lenJ.getD i0 0)) < x3 then (Int32.ofNat (lenJ.getD i0 0)) else x3) → wp_J1_indexOfChar_4cfef N i0 x1 (if x2 < 0 then 0 else x2) (if (Int32.ofNat (lenJ.getD i0 0)) < x3 then (Int32.ofNat (lenJ.getD i0 0)) else x3) (fun r4 => 
     Φ r4)) ∧
     (¬ ((if x2 < 0 then 0 else x2) < (if (Int32.ofNat (lenJ.getD i0 0)) < x3 then (Int32.ofNat (lenJ.getD i0 0)) else x3)) → Φ (-1))))))
abbrev zW_J1_indexOf_4cfef (cI cC cS : ClassId)  : va_W := []
abbrev zr_J1_indexOf_4cfef : Room := { frames := 1, cells := 0, slots := 0, locals := 30 }
set_option maxHeartbeats 4000000 in
set_option maxRecDepth 100000 in
theorem c_J1_indexOf_4cfef (l : Launch) (dC : Nat → ClassId) (dI : Nat → Nat → Nat) (cI cC cS : ClassId) (adK adV : Nat → Nat) (fm : Value)  (sz : Nat) (i0 : Nat) (hi0 : i0 < 7) (x1 : Int32) (x2 : Int32) (x3 : Int32) (N : Nat) (Φ : Int32 → Prop)  (hf : wp_J1_indexOf_4cfef N i0 x1 x2 x3 Φ) : Met l yJ1_indexOf_4cfef wsJ1_indexOf_4cfef zr_J1_indexOf_4cfef (zPcS (dC, dI) (zT cI cC cS) adK adV fm [.ref (adV i0), .int x1, .int x2, .int x3] sz (zW_J1_indexOf_4cfef cI cC cS )) (zQi (dC, dI) (zT cI cC cS) (va_A (zW_J1_indexOf_4cfef cI cC cS ) sz) (fun (r : Int32) (u : Unit) => Φ r) (fun u => (zW_J1_indexOf_4cfef cI cC cS ))) 0 0 (va_A (zW_J1_indexOf_4cfef cI cC cS ) sz) := by
  refine Met.ofW (cc := cJ1_indexOf_4cfef) (maxL := 4) (ret := (some .int)) (by decide) rfl ?_
  intro p e s m args below meth c s₁ B hml hv
  obtain ⟨rfl, hsz, hP, hK, hD0, hZ⟩ := hv
  have hx := B.exec
  have hb := B.bytes
  have hr := B.returns
  have hts := atoms_spec (ws := wsJ1_indexOf_4cfef) B.pre
  have hown : s.vm.findClass RJ1 = some m.cls := findClass_of_methodNamed B.named
  have hlocks := B.notSynchronized
  subst hsz
  have hD := hD0.self (sz := s.heap.size)
  have hA : ∀ q : Nat, s.heap.size ≤ q → va_A (zW_J1_indexOf_4cfef cI cC cS ) s.heap.size q := fun q h => Or.inr h
  generalize va_A (zW_J1_indexOf_4cfef cI cC cS ) s.heap.size = A at hD hA hZ ⊢
  have hS : va_S A s.heap s.heap [] := va_S.rf
  have hl := lv_entry ([.ref (adV i0), .int x1, .int x2, .int x3]) (n := 4) (Nat.le_of_ble_eq_true rfl)
  rw [lg_entry_eq]
  generalize (lg_sl ([.ref (adV i0), .int x1, .int x2, .int x3]) ++ List.replicate (4 - (lg_sl ([.ref (adV i0), .int x1, .int x2, .int x3])).length) Slot.unset).toArray = ls at hl ⊢
  have hl : lv_has ls 4 [(0, .ref (adV i0)), (1, .int x1), (2, .int x2), (3, .int x3)] := hl
  have lk2 := hts (.static Lib.Math.max.name) (List.mem_of_getElem? (i := 2) rfl)
  have lk3 := hts (.initialized "java/lang/Math") (List.mem_of_getElem? (i := 3) rfl)
  have lk4 := hts (.code Lib.Math.max.name Lib.Math.max.code 2 (some .int)) (List.mem_of_getElem? (i := 4) rfl)
  have lk1 := hts (.methodLink RJ1 92 Lib.Math.max.name) (List.mem_of_getElem? (i := 1) rfl)
  have lk6 := hts (.static Lib.Math.min.name) (List.mem_of_getElem? (i := 6) rfl)
  have lk7 := hts (.code Lib.Math.min.name Lib.Math.min.code 2 (some .int)) (List.mem_of_getElem? (i := 7) rfl)
  have lk5 := hts (.methodLink RJ1 38 Lib.Math.min.name) (List.mem_of_getElem? (i := 5) rfl)
  unfold wp_J1_indexOf_4cfef at hf
  refine lv_iload_n hx hb dJ1_indexOf_4cfef_0 rfl (lv_at hl 1 rfl) ?_
  refine z_Si (n := 1) (As := [.int x1]) (rest := []) ⟨hx, hb, hml, hown, hts⟩ (c_J1_canEncode_9a6ad l dC dI cI cC cS  _  x1 N _  hf) gJ1_indexOf_4cfef_J1_canEncode_9a6ad rfl rfl rfl (by decide +kernel) ⟨Nat.le_of_ble_eq_true rfl, Nat.le_of_ble_eq_true rfl⟩ hK hP hD hS hA rfl hl.1 rfl (Nat.le_of_ble_eq_true rfl) dJ1_indexOf_4cfef_1 ⟨Nat.zero_le _, Nat.zero_le _⟩ [] [] (([] : va_W)) rfl rfl (by decide) (by decide) (by decide) (fun u => (zW_J1_indexOf_4cfef cI cC cS )) [] (fun u => rfl) (by decide) (fun r1 u1 H locs hf hP hD hS => ?_)
  have hP : va_P (dC, dI) vwCl (zW_J1_indexOf_4cfef cI cC cS ) H := hP
  have hD : va_D A (zW_J1_indexOf_4cfef cI cC cS ) := hD
  refine lv_if_ne (tgt := 9) hx hb dJ1_indexOf_4cfef_4 (by decide) (fun c2 => ?_) (fun c2 => ?_)
  · replace hf := hf.2 c2
    refine lv_iload_n hx hb dJ1_indexOf_4cfef_9 rfl (lv_at hl 2 rfl) ?_
    refine lv_iconst (v := 0) hx hb dJ1_indexOf_4cfef_10 (by decide) ?_
    refine va_mmax hx hb (hml.trans hl.1.symm) hown lk1 lk2 lk3 lk4 (Nat.le_of_ble_eq_true rfl) (Nat.le_of_ble_eq_true rfl) (Nat.zero_le _) (Nat.zero_le _) (x := x2) (y := 0) dJ1_indexOf_4cfef_11 ?_
    refine lv_istore_n (lv' := [(2, .int (if x2 < 0 then 0 else x2)), (0, .ref (adV i0)), (1, .int x1), (3, .int x3)]) hx hb dJ1_indexOf_4cfef_14 rfl hl (by decide) rfl (fun ls hl => ?_)
    refine lv_iload_n hx hb dJ1_indexOf_4cfef_15 rfl (lv_at hl 3 rfl) ?_
    refine lv_aload_n hx hb dJ1_indexOf_4cfef_16 rfl (lv_at hl 1 rfl) ?_
    refine va_tlen hx hb (hZ.1.1 i0 hi0).2.2.2 hS (v := (Int32.ofNat (lenJ.getD i0 0))) rfl dJ1_indexOf_4cfef_17 ?_
    refine va_mmin hx hb (hml.trans hl.1.symm) hown lk5 lk6 lk3 lk7 (Nat.le_of_ble_eq_true rfl) (Nat.le_of_ble_eq_true rfl) (Nat.zero_le _) (Nat.zero_le _) (x := x3) (y := (Int32.ofNat (lenJ.getD i0 0))) dJ1_indexOf_4cfef_18 ?_
    refine lv_istore_n (lv' := [(3, .int (if (Int32.ofNat (lenJ.getD i0 0)) < x3 then (Int32.ofNat (lenJ.getD i0 0)) else x3)), (2, .int (if x2 < 0 then 0 else x2)), (0, .ref (adV i0)), (1, .int x1)]) hx hb dJ1_indexOf_4cfef_21 rfl hl (by decide) rfl (fun ls hl => ?_)
    refine lv_iload_n hx hb dJ1_indexOf_4cfef_22 rfl (lv_at hl 1 rfl) ?_
    refine lv_iload_n hx hb dJ1_indexOf_4cfef_23 rfl (lv_at hl 0 rfl) ?_
    refine lv_icmp_lt (tgt := 29) hx hb dJ1_indexOf_4cfef_24 (by decide) (fun c3 => ?_) (fun c3 => ?_)
    · replace hf := hf.1 c3
      refine lv_aload_n hx hb dJ1_indexOf_4cfef_29 rfl (lv_at hl 2 rfl) ?_
      refine lv_iload_n hx hb dJ1_indexOf_4cfef_30 rfl (lv_at hl 3 rfl) ?_
      refine lv_iload_n hx hb dJ1_indexOf_4cfef_31 rfl (lv_at hl 1 rfl) ?_
      refine lv_iload_n hx hb dJ1_indexOf_4cfef_32 rfl (lv_at hl 0 rfl) ?_
      refine zs_Si (n := 4) (As := [.ref (adV i0), .int x1, .int (if x2 < 0 then 0 else x2), .int (if (Int32.ofNat (lenJ.getD i0 0)) < x3 then (Int32.ofNat (lenJ.getD i0 0)) else x3)]) (rest := []) ⟨hx, hb, hml, hown, hts⟩ (c_J1_indexOfChar_4cfef l dC dI cI cC cS adK adV fm  _ i0 hi0 x1 (if x2 < 0 then 0 else x2) (if (Int32.ofNat (lenJ.getD i0 0)) < x3 then (Int32.ofNat (lenJ.getD i0 0)) else x3) N _  hf) gJ1_indexOf_4cfef_J1_indexOfChar_4cfef rfl rfl rfl (by decide +kernel) ⟨Nat.le_of_ble_eq_true rfl, Nat.le_of_ble_eq_true rfl⟩ hK hP hD hS hA hZ rfl hl.1 rfl (Nat.le_of_ble_eq_true rfl) dJ1_indexOf_4cfef_33 ⟨Nat.zero_le _, Nat.zero_le _⟩ [] [] (([] : va_W)) rfl rfl (by decide) (by decide) (by decide) (fun u => (zW_J1_indexOf_4cfef cI cC cS )) [] (fun u => rfl) (by decide) (fun r4 u4 H locs hf hP hD hS => ?_)
      have hP : va_P (dC, dI) vwCl (zW_J1_indexOf_4cfef cI cC cS ) H := hP
      have hD : va_D A (zW_J1_indexOf_4cfef cI cC cS ) := hD
      exact z_iret hx hb hr hlocks () hf hK hP hD hS dJ1_indexOf_4cfef_36
    · replace hf := hf.2 c3
      refine lv_iconst (v := (-1)) hx hb dJ1_indexOf_4cfef_27 (by decide) ?_
      exact z_iret hx hb hr hlocks () hf hK hP hD hS dJ1_indexOf_4cfef_28
  · replace hf := hf.1 c2
    refine lv_iconst (v := (-1)) hx hb dJ1_indexOf_4cfef_7 (by decide) ?_
    exact z_iret hx hb hr hlocks () hf hK hP hD hS dJ1_indexOf_4cfef_8
def wp_J0_indexOf_7cf53 (N : Nat) (i0 : Nat) (x1 : Int32) (x2 : Int32) (Φ : Int32 → Prop) : Prop := 
    wp_J0_length_8abf5 N i0 (fun r2 => 
     wp_J1_indexOf_4cfef N i0 x1 x2 r2 (fun r3 => 
     Φ r3))
abbrev zW_J0_indexOf_7cf53 (cI cC cS : ClassId)  : va_W := []
abbrev zr_J0_indexOf_7cf53 : Room := { frames := 2, cells := 0, slots := 0, locals := 53 }
set_option maxHeartbeats 4000000 in
set_option maxRecDepth 100000 in
theorem c_J0_indexOf_7cf53 (l : Launch) (dC : Nat → ClassId) (dI : Nat → Nat → Nat) (cI cC cS : ClassId) (adK adV : Nat → Nat) (fm : Value)  (sz : Nat) (i0 : Nat) (hi0 : i0 < 7) (x1 : Int32) (x2 : Int32) (N : Nat) (Φ : Int32 → Prop)  (hf : wp_J0_indexOf_7cf53 N i0 x1 x2 Φ) : Met l yJ0_indexOf_7cf53 wsJ0_indexOf_7cf53 zr_J0_indexOf_7cf53 (zPcS (dC, dI) (zT cI cC cS) adK adV fm [.ref (adK i0), .int x1, .int x2] sz (zW_J0_indexOf_7cf53 cI cC cS )) (zQi (dC, dI) (zT cI cC cS) (va_A (zW_J0_indexOf_7cf53 cI cC cS ) sz) (fun (r : Int32) (u : Unit) => Φ r) (fun u => (zW_J0_indexOf_7cf53 cI cC cS ))) 0 0 (va_A (zW_J0_indexOf_7cf53 cI cC cS ) sz) := by
  refine Met.ofW (cc := cJ0_indexOf_7cf53) (maxL := 3) (ret := (some .int)) (by decide) rfl ?_
  intro p e s m args below meth c s₁ B hml hv
  obtain ⟨rfl, hsz, hP, hK, hD0, hZ⟩ := hv
  have hx := B.exec
  have hb := B.bytes
  have hr := B.returns
  have hts := atoms_spec (ws := wsJ0_indexOf_7cf53) B.pre
  have hown : s.vm.findClass RJ0 = some m.cls := findClass_of_methodNamed B.named
  have hlocks := B.notSynchronized
  subst hsz
  have hD := hD0.self (sz := s.heap.size)
  have hA : ∀ q : Nat, s.heap.size ≤ q → va_A (zW_J0_indexOf_7cf53 cI cC cS ) s.heap.size q := fun q h => Or.inr h
  generalize va_A (zW_J0_indexOf_7cf53 cI cC cS ) s.heap.size = A at hD hA hZ ⊢
  have hS : va_S A s.heap s.heap [] := va_S.rf
  have hl := lv_entry ([.ref (adK i0), .int x1, .int x2]) (n := 3) (Nat.le_of_ble_eq_true rfl)
  rw [lg_entry_eq]
  generalize (lg_sl ([.ref (adK i0), .int x1, .int x2]) ++ List.replicate (3 - (lg_sl ([.ref (adK i0), .int x1, .int x2])).length) Slot.unset).toArray = ls at hl ⊢
  have hl : lv_has ls 3 [(0, .ref (adK i0)), (1, .int x1), (2, .int x2)] := hl
  have lk1 := hts (.fieldLink RJ0 9 "java/lang/String" "value" "[B") (List.mem_of_getElem? (i := 1) rfl)
  unfold wp_J0_indexOf_7cf53 at hf
  refine lv_aload_n hx hb dJ0_indexOf_7cf53_0 rfl (lv_at hl 0 rfl) ?_
  refine zs_Vi (n := 0) (As := []) (rest := []) ⟨hx, hb, hml, hown, hts⟩ (c_J0_isLatin1_aae02 l dC dI cI cC cS adK adV fm  _ i0 hi0  N (fun r => r = 1)  rfl) gJ0_indexOf_7cf53_J0_isLatin1_aae02 rfl rfl rfl (by decide +kernel) ⟨Nat.le_of_ble_eq_true rfl, Nat.le_of_ble_eq_true rfl⟩ hK hP hD hS hA hZ (vk_recv hZ.1 hi0 hS) rfl hl.1 rfl (Nat.le_of_ble_eq_true rfl) dJ0_indexOf_7cf53_1 ⟨Nat.zero_le _, Nat.zero_le _⟩ [] [] (([] : va_W)) rfl rfl (by decide) (by decide) (by decide) (fun u => (zW_J0_indexOf_7cf53 cI cC cS )) [] (fun u => rfl) (by decide) (fun r1 u1 H locs e1 hP hD hS => ?_)
  subst e1
  have hP : va_P (dC, dI) vwCl (zW_J0_indexOf_7cf53 cI cC cS ) H := hP
  have hD : va_D A (zW_J0_indexOf_7cf53 cI cC cS ) := hD
  refine lv_if_eq (tgt := 23) hx hb dJ0_indexOf_7cf53_4 (by decide) (fun c9 => absurd c9 (by decide)) (fun _ => ?_)
  refine lv_aload_n hx hb dJ0_indexOf_7cf53_7 rfl (lv_at hl 0 rfl) ?_
  refine vk_getf hx hb (hZ.1.1 i0 hi0).2.2.1 hS hown lk1 (fun _ h9 => h9) dJ0_indexOf_7cf53_8 ?_
  refine lv_iload_n hx hb dJ0_indexOf_7cf53_11 rfl (lv_at hl 1 rfl) ?_
  refine lv_iload_n hx hb dJ0_indexOf_7cf53_12 rfl (lv_at hl 2 rfl) ?_
  refine lv_aload_n hx hb dJ0_indexOf_7cf53_13 rfl (lv_at hl 0 rfl) ?_
  refine zs_Vi (n := 0) (As := []) (rest := [.int x2, .int x1, .ref (adV i0)]) ⟨hx, hb, hml, hown, hts⟩ (c_J0_length_8abf5 l dC dI cI cC cS adK adV fm  _ i0 hi0  N _  hf) gJ0_indexOf_7cf53_J0_length_8abf5 rfl rfl rfl (by decide +kernel) ⟨Nat.le_of_ble_eq_true rfl, Nat.le_of_ble_eq_true rfl⟩ hK hP hD hS hA hZ (vk_recv hZ.1 hi0 hS) rfl hl.1 rfl (Nat.le_of_ble_eq_true rfl) dJ0_indexOf_7cf53_14 ⟨Nat.zero_le _, Nat.zero_le _⟩ [] [] (([] : va_W)) rfl rfl (by decide) (by decide) (by decide) (fun u => (zW_J0_indexOf_7cf53 cI cC cS )) [] (fun u => rfl) (by decide) (fun r2 u2 H locs hf hP hD hS => ?_)
  have hP : va_P (dC, dI) vwCl (zW_J0_indexOf_7cf53 cI cC cS ) H := hP
  have hD : va_D A (zW_J0_indexOf_7cf53 cI cC cS ) := hD
  refine zs_Si (n := 4) (As := [.ref (adV i0), .int x1, .int x2, .int r2]) (rest := []) ⟨hx, hb, hml, hown, hts⟩ (c_J1_indexOf_4cfef l dC dI cI cC cS adK adV fm  _ i0 hi0 x1 x2 r2 N _  hf) gJ0_indexOf_7cf53_J1_indexOf_4cfef rfl rfl rfl (by decide +kernel) ⟨Nat.le_of_ble_eq_true rfl, Nat.le_of_ble_eq_true rfl⟩ hK hP hD hS hA hZ rfl hl.1 rfl (Nat.le_of_ble_eq_true rfl) dJ0_indexOf_7cf53_17 ⟨Nat.zero_le _, Nat.zero_le _⟩ [] [] (([] : va_W)) rfl rfl (by decide) (by decide) (by decide) (fun u => (zW_J0_indexOf_7cf53 cI cC cS )) [] (fun u => rfl) (by decide) (fun r3 u3 H locs hf hP hD hS => ?_)
  have hP : va_P (dC, dI) vwCl (zW_J0_indexOf_7cf53 cI cC cS ) H := hP
  have hD : va_D A (zW_J0_indexOf_7cf53 cI cC cS ) := hD
  refine lv_goto (tgt := 36) hx hb dJ0_indexOf_7cf53_20 (by decide) ?_
  exact z_iret hx hb hr hlocks () hf hK hP hD hS dJ0_indexOf_7cf53_36
def wp_J0_indexOf_0f7a4 (N : Nat) (i0 : Nat) (x1 : Int32) (Φ : Int32 → Prop) : Prop := 
    wp_J0_indexOf_7cf53 N i0 x1 0 (fun r1 => 
     Φ r1)
abbrev zW_J0_indexOf_0f7a4 (cI cC cS : ClassId)  : va_W := []
abbrev zr_J0_indexOf_0f7a4 : Room := { frames := 3, cells := 0, slots := 0, locals := 75 }
set_option maxHeartbeats 4000000 in
set_option maxRecDepth 100000 in
theorem c_J0_indexOf_0f7a4 (l : Launch) (dC : Nat → ClassId) (dI : Nat → Nat → Nat) (cI cC cS : ClassId) (adK adV : Nat → Nat) (fm : Value)  (sz : Nat) (i0 : Nat) (hi0 : i0 < 7) (x1 : Int32) (N : Nat) (Φ : Int32 → Prop)  (hf : wp_J0_indexOf_0f7a4 N i0 x1 Φ) : Met l yJ0_indexOf_0f7a4 wsJ0_indexOf_0f7a4 zr_J0_indexOf_0f7a4 (zPcS (dC, dI) (zT cI cC cS) adK adV fm [.ref (adK i0), .int x1] sz (zW_J0_indexOf_0f7a4 cI cC cS )) (zQi (dC, dI) (zT cI cC cS) (va_A (zW_J0_indexOf_0f7a4 cI cC cS ) sz) (fun (r : Int32) (u : Unit) => Φ r) (fun u => (zW_J0_indexOf_0f7a4 cI cC cS ))) 0 0 (va_A (zW_J0_indexOf_0f7a4 cI cC cS ) sz) := by
  refine Met.ofW (cc := cJ0_indexOf_0f7a4) (maxL := 2) (ret := (some .int)) (by decide) rfl ?_
  intro p e s m args below meth c s₁ B hml hv
  obtain ⟨rfl, hsz, hP, hK, hD0, hZ⟩ := hv
  have hx := B.exec
  have hb := B.bytes
  have hr := B.returns
  have hts := atoms_spec (ws := wsJ0_indexOf_0f7a4) B.pre
  have hown : s.vm.findClass RJ0 = some m.cls := findClass_of_methodNamed B.named
  have hlocks := B.notSynchronized
  subst hsz
  have hD := hD0.self (sz := s.heap.size)
  have hA : ∀ q : Nat, s.heap.size ≤ q → va_A (zW_J0_indexOf_0f7a4 cI cC cS ) s.heap.size q := fun q h => Or.inr h
  generalize va_A (zW_J0_indexOf_0f7a4 cI cC cS ) s.heap.size = A at hD hA hZ ⊢
  have hS : va_S A s.heap s.heap [] := va_S.rf
  have hl := lv_entry ([.ref (adK i0), .int x1]) (n := 2) (Nat.le_of_ble_eq_true rfl)
  rw [lg_entry_eq]
  generalize (lg_sl ([.ref (adK i0), .int x1]) ++ List.replicate (2 - (lg_sl ([.ref (adK i0), .int x1])).length) Slot.unset).toArray = ls at hl ⊢
  have hl : lv_has ls 2 [(0, .ref (adK i0)), (1, .int x1)] := hl
  unfold wp_J0_indexOf_0f7a4 at hf
  refine lv_aload_n hx hb dJ0_indexOf_0f7a4_0 rfl (lv_at hl 0 rfl) ?_
  refine lv_iload_n hx hb dJ0_indexOf_0f7a4_1 rfl (lv_at hl 1 rfl) ?_
  refine lv_iconst (v := 0) hx hb dJ0_indexOf_0f7a4_2 (by decide) ?_
  refine zs_Vi (n := 2) (As := [.int x1, .int 0]) (rest := []) ⟨hx, hb, hml, hown, hts⟩ (c_J0_indexOf_7cf53 l dC dI cI cC cS adK adV fm  _ i0 hi0 x1 0 N _  hf) gJ0_indexOf_0f7a4_J0_indexOf_7cf53 rfl rfl rfl (by decide +kernel) ⟨Nat.le_of_ble_eq_true rfl, Nat.le_of_ble_eq_true rfl⟩ hK hP hD hS hA hZ (vk_recv hZ.1 hi0 hS) rfl hl.1 rfl (Nat.le_of_ble_eq_true rfl) dJ0_indexOf_0f7a4_3 ⟨Nat.zero_le _, Nat.zero_le _⟩ [] [] (([] : va_W)) rfl rfl (by decide) (by decide) (by decide) (fun u => (zW_J0_indexOf_0f7a4 cI cC cS )) [] (fun u => rfl) (by decide) (fun r1 u1 H locs hf hP hD hS => ?_)
  have hP : va_P (dC, dI) vwCl (zW_J0_indexOf_0f7a4 cI cC cS ) H := hP
  have hD : va_D A (zW_J0_indexOf_0f7a4 cI cC cS ) := hD
  exact z_iret hx hb hr hlocks () hf hK hP hD hS dJ0_indexOf_0f7a4_6
def wp_X7_formBehind (N : Nat) (x0 : Int32) (Φ : Nat → Prop) : Prop := 
    ((x0 = 97 → Φ 1) ∧
     (x0 = 98 → Φ 4) ∧
     (x0 = 99 → Φ 4) ∧
     (x0 = 100 → Φ 4) ∧
     (x0 = 101 → Φ 1) ∧
     (x0 = 102 → Φ 4) ∧
     (x0 = 103 → Φ 4) ∧
     (x0 = 104 → Φ 4) ∧
     (x0 = 105 → Φ 4) ∧
     (x0 = 106 → Φ 4) ∧
     (x0 = 107 → Φ 4) ∧
     (x0 = 108 → Φ 4) ∧
     (x0 = 109 → Φ 4) ∧
     (x0 = 110 → Φ 1) ∧
     (x0 = 111 → Φ 1) ∧
     (x0 = 112 → Φ 4) ∧
     (x0 = 113 → Φ 4) ∧
     (x0 = 114 → Φ 2) ∧
     (x0 = 115 → Φ 3) ∧
     (x0 = 116 → Φ 4) ∧
     (x0 = 117 → Φ 4) ∧
     (x0 = 118 → Φ 0) ∧
     (¬ (x0 = 97) → ¬ (x0 = 98) → ¬ (x0 = 99) → ¬ (x0 = 100) → ¬ (x0 = 101) → ¬ (x0 = 102) → ¬ (x0 = 103) → ¬ (x0 = 104) → ¬ (x0 = 105) → ¬ (x0 = 106) → ¬ (x0 = 107) → ¬ (x0 = 108) → ¬ (x0 = 109) → ¬ (x0 = 110) → ¬ (x0 = 111) → ¬ (x0 = 112) → ¬ (x0 = 113) → ¬ (x0 = 114) → ¬ (x0 = 115) → ¬ (x0 = 116) → ¬ (x0 = 117) → ¬ (x0 = 118) → Φ 4))
abbrev zW_X7_formBehind (cI cC cS : ClassId)  : va_W := []
abbrev zr_X7_formBehind : Room := { frames := 0, cells := 0, slots := 0, locals := 0 }
set_option maxHeartbeats 4000000 in
set_option maxRecDepth 100000 in
theorem c_X7_formBehind (l : Launch) (dC : Nat → ClassId) (dI : Nat → Nat → Nat) (cI cC cS : ClassId) (adK adV : Nat → Nat) (fm : Value)  (sz : Nat) (x0 : Int32) (N : Nat) (Φ : Nat → Prop)  (hf : wp_X7_formBehind N x0 Φ) : Met l yX7_formBehind wsX7_formBehind zr_X7_formBehind (zPcS (dC, dI) (zT cI cC cS) adK adV fm [.int x0] sz (zW_X7_formBehind cI cC cS )) (va_Qr (fun (u : Nat) => Φ u) (fun (u : Nat) (q : Nat) (_ : State) => u < 7 ∧ q = adK u) (va_A (zW_X7_formBehind cI cC cS ) sz)) 0 0 (va_A (zW_X7_formBehind cI cC cS ) sz) := by
  refine Met.ofW (cc := cX7_formBehind) (maxL := 1) (ret := (some (.object "java/lang/String"))) (by decide) rfl ?_
  intro p e s m args below meth c s₁ B hml hv
  obtain ⟨rfl, hsz, hP, hK, hD0, hZ⟩ := hv
  have hx := B.exec
  have hb := B.bytes
  have hr := B.returns
  have hts := atoms_spec (ws := wsX7_formBehind) B.pre
  have hown : s.vm.findClass RX7 = some m.cls := findClass_of_methodNamed B.named
  have hlocks := B.notSynchronized
  subst hsz
  have hD := hD0.self (sz := s.heap.size)
  have hA : ∀ q : Nat, s.heap.size ≤ q → va_A (zW_X7_formBehind cI cC cS ) s.heap.size q := fun q h => Or.inr h
  generalize va_A (zW_X7_formBehind cI cC cS ) s.heap.size = A at hD hA hZ ⊢
  have hS : va_S A s.heap s.heap [] := va_S.rf
  have hl := lv_entry ([.int x0]) (n := 1) (Nat.le_of_ble_eq_true rfl)
  rw [lg_entry_eq]
  generalize (lg_sl ([.int x0]) ++ List.replicate (1 - (lg_sl ([.int x0])).length) Slot.unset).toArray = ls at hl ⊢
  have hl : lv_has ls 1 [(0, .int x0)] := hl
  unfold wp_X7_formBehind at hf
  refine lv_iload_n hx hb dX7_formBehind_0 rfl (lv_at hl 0 rfl) ?_
  rcases Classical.em (x0 = 97) with c1_0 | c1_0
  · refine lv_tableIn (off := 106) (tgt := 107) hx hb dX7_formBehind_1 (by rw [c1_0]; decide) (by rw [c1_0]; decide) (by rw [c1_0]; rfl) (by decide) ?_
    replace hf := hf.1 c1_0
    refine va_ldcS hx hb hown (hZ.2.1 1 (by decide)) dX7_formBehind_107 ?_
    exact W.aret hx hb hr (Or.inl ⟨_, rfl⟩) (Or.inr ⟨_, rfl⟩) (fun t ht hW => ⟨⟨1, _, rfl, hf, (by decide), rfl⟩, hS.F ht⟩) hS.2.2 dX7_formBehind_109 hlocks
  · rcases Classical.em (x0 = 98) with c1_1 | c1_1
    · refine lv_tableIn (off := 115) (tgt := 116) hx hb dX7_formBehind_1 (by rw [c1_1]; decide) (by rw [c1_1]; decide) (by rw [c1_1]; rfl) (by decide) ?_
      replace hf := hf.2.1 c1_1
      refine va_ldcS hx hb hown (hZ.2.1 4 (by decide)) dX7_formBehind_116 ?_
      exact W.aret hx hb hr (Or.inl ⟨_, rfl⟩) (Or.inr ⟨_, rfl⟩) (fun t ht hW => ⟨⟨4, _, rfl, hf, (by decide), rfl⟩, hS.F ht⟩) hS.2.2 dX7_formBehind_118 hlocks
    · rcases Classical.em (x0 = 99) with c1_2 | c1_2
      · refine lv_tableIn (off := 115) (tgt := 116) hx hb dX7_formBehind_1 (by rw [c1_2]; decide) (by rw [c1_2]; decide) (by rw [c1_2]; rfl) (by decide) ?_
        replace hf := hf.2.2.1 c1_2
        refine va_ldcS hx hb hown (hZ.2.1 4 (by decide)) dX7_formBehind_116 ?_
        exact W.aret hx hb hr (Or.inl ⟨_, rfl⟩) (Or.inr ⟨_, rfl⟩) (fun t ht hW => ⟨⟨4, _, rfl, hf, (by decide), rfl⟩, hS.F ht⟩) hS.2.2 dX7_formBehind_118 hlocks
      · rcases Classical.em (x0 = 100) with c1_3 | c1_3
        · refine lv_tableIn (off := 115) (tgt := 116) hx hb dX7_formBehind_1 (by rw [c1_3]; decide) (by rw [c1_3]; decide) (by rw [c1_3]; rfl) (by decide) ?_
          replace hf := hf.2.2.2.1 c1_3
          refine va_ldcS hx hb hown (hZ.2.1 4 (by decide)) dX7_formBehind_116 ?_
          exact W.aret hx hb hr (Or.inl ⟨_, rfl⟩) (Or.inr ⟨_, rfl⟩) (fun t ht hW => ⟨⟨4, _, rfl, hf, (by decide), rfl⟩, hS.F ht⟩) hS.2.2 dX7_formBehind_118 hlocks
        · rcases Classical.em (x0 = 101) with c1_4 | c1_4
          · refine lv_tableIn (off := 106) (tgt := 107) hx hb dX7_formBehind_1 (by rw [c1_4]; decide) (by rw [c1_4]; decide) (by rw [c1_4]; rfl) (by decide) ?_
            replace hf := hf.2.2.2.2.1 c1_4
            refine va_ldcS hx hb hown (hZ.2.1 1 (by decide)) dX7_formBehind_107 ?_
            exact W.aret hx hb hr (Or.inl ⟨_, rfl⟩) (Or.inr ⟨_, rfl⟩) (fun t ht hW => ⟨⟨1, _, rfl, hf, (by decide), rfl⟩, hS.F ht⟩) hS.2.2 dX7_formBehind_109 hlocks
          · rcases Classical.em (x0 = 102) with c1_5 | c1_5
            · refine lv_tableIn (off := 115) (tgt := 116) hx hb dX7_formBehind_1 (by rw [c1_5]; decide) (by rw [c1_5]; decide) (by rw [c1_5]; rfl) (by decide) ?_
              replace hf := hf.2.2.2.2.2.1 c1_5
              refine va_ldcS hx hb hown (hZ.2.1 4 (by decide)) dX7_formBehind_116 ?_
              exact W.aret hx hb hr (Or.inl ⟨_, rfl⟩) (Or.inr ⟨_, rfl⟩) (fun t ht hW => ⟨⟨4, _, rfl, hf, (by decide), rfl⟩, hS.F ht⟩) hS.2.2 dX7_formBehind_118 hlocks
            · rcases Classical.em (x0 = 103) with c1_6 | c1_6
              · refine lv_tableIn (off := 115) (tgt := 116) hx hb dX7_formBehind_1 (by rw [c1_6]; decide) (by rw [c1_6]; decide) (by rw [c1_6]; rfl) (by decide) ?_
                replace hf := hf.2.2.2.2.2.2.1 c1_6
                refine va_ldcS hx hb hown (hZ.2.1 4 (by decide)) dX7_formBehind_116 ?_
                exact W.aret hx hb hr (Or.inl ⟨_, rfl⟩) (Or.inr ⟨_, rfl⟩) (fun t ht hW => ⟨⟨4, _, rfl, hf, (by decide), rfl⟩, hS.F ht⟩) hS.2.2 dX7_formBehind_118 hlocks
              · rcases Classical.em (x0 = 104) with c1_7 | c1_7
                · refine lv_tableIn (off := 115) (tgt := 116) hx hb dX7_formBehind_1 (by rw [c1_7]; decide) (by rw [c1_7]; decide) (by rw [c1_7]; rfl) (by decide) ?_
                  replace hf := hf.2.2.2.2.2.2.2.1 c1_7
                  refine va_ldcS hx hb hown (hZ.2.1 4 (by decide)) dX7_formBehind_116 ?_
                  exact W.aret hx hb hr (Or.inl ⟨_, rfl⟩) (Or.inr ⟨_, rfl⟩) (fun t ht hW => ⟨⟨4, _, rfl, hf, (by decide), rfl⟩, hS.F ht⟩) hS.2.2 dX7_formBehind_118 hlocks
                · rcases Classical.em (x0 = 105) with c1_8 | c1_8
                  · refine lv_tableIn (off := 115) (tgt := 116) hx hb dX7_formBehind_1 (by rw [c1_8]; decide) (by rw [c1_8]; decide) (by rw [c1_8]; rfl) (by decide) ?_
                    replace hf := hf.2.2.2.2.2.2.2.2.1 c1_8
                    refine va_ldcS hx hb hown (hZ.2.1 4 (by decide)) dX7_formBehind_116 ?_
                    exact W.aret hx hb hr (Or.inl ⟨_, rfl⟩) (Or.inr ⟨_, rfl⟩) (fun t ht hW => ⟨⟨4, _, rfl, hf, (by decide), rfl⟩, hS.F ht⟩) hS.2.2 dX7_formBehind_118 hlocks
                  · rcases Classical.em (x0 = 106) with c1_9 | c1_9
                    · refine lv_tableIn (off := 115) (tgt := 116) hx hb dX7_formBehind_1 (by rw [c1_9]; decide) (by rw [c1_9]; decide) (by rw [c1_9]; rfl) (by decide) ?_
                      replace hf := hf.2.2.2.2.2.2.2.2.2.1 c1_9
                      refine va_ldcS hx hb hown (hZ.2.1 4 (by decide)) dX7_formBehind_116 ?_
                      exact W.aret hx hb hr (Or.inl ⟨_, rfl⟩) (Or.inr ⟨_, rfl⟩) (fun t ht hW => ⟨⟨4, _, rfl, hf, (by decide), rfl⟩, hS.F ht⟩) hS.2.2 dX7_formBehind_118 hlocks
                    · rcases Classical.em (x0 = 107) with c1_10 | c1_10
                      · refine lv_tableIn (off := 115) (tgt := 116) hx hb dX7_formBehind_1 (by rw [c1_10]; decide) (by rw [c1_10]; decide) (by rw [c1_10]; rfl) (by decide) ?_
                        replace hf := hf.2.2.2.2.2.2.2.2.2.2.1 c1_10
                        refine va_ldcS hx hb hown (hZ.2.1 4 (by decide)) dX7_formBehind_116 ?_
                        exact W.aret hx hb hr (Or.inl ⟨_, rfl⟩) (Or.inr ⟨_, rfl⟩) (fun t ht hW => ⟨⟨4, _, rfl, hf, (by decide), rfl⟩, hS.F ht⟩) hS.2.2 dX7_formBehind_118 hlocks
                      · rcases Classical.em (x0 = 108) with c1_11 | c1_11
                        · refine lv_tableIn (off := 115) (tgt := 116) hx hb dX7_formBehind_1 (by rw [c1_11]; decide) (by rw [c1_11]; decide) (by rw [c1_11]; rfl) (by decide) ?_
                          replace hf := hf.2.2.2.2.2.2.2.2.2.2.2.1 c1_11
                          refine va_ldcS hx hb hown (hZ.2.1 4 (by decide)) dX7_formBehind_116 ?_
                          exact W.aret hx hb hr (Or.inl ⟨_, rfl⟩) (Or.inr ⟨_, rfl⟩) (fun t ht hW => ⟨⟨4, _, rfl, hf, (by decide), rfl⟩, hS.F ht⟩) hS.2.2 dX7_formBehind_118 hlocks
                        · rcases Classical.em (x0 = 109) with c1_12 | c1_12
                          · refine lv_tableIn (off := 115) (tgt := 116) hx hb dX7_formBehind_1 (by rw [c1_12]; decide) (by rw [c1_12]; decide) (by rw [c1_12]; rfl) (by decide) ?_
                            replace hf := hf.2.2.2.2.2.2.2.2.2.2.2.2.1 c1_12
                            refine va_ldcS hx hb hown (hZ.2.1 4 (by decide)) dX7_formBehind_116 ?_
                            exact W.aret hx hb hr (Or.inl ⟨_, rfl⟩) (Or.inr ⟨_, rfl⟩) (fun t ht hW => ⟨⟨4, _, rfl, hf, (by decide), rfl⟩, hS.F ht⟩) hS.2.2 dX7_formBehind_118 hlocks
                          · rcases Classical.em (x0 = 110) with c1_13 | c1_13
                            · refine lv_tableIn (off := 106) (tgt := 107) hx hb dX7_formBehind_1 (by rw [c1_13]; decide) (by rw [c1_13]; decide) (by rw [c1_13]; rfl) (by decide) ?_
                              replace hf := hf.2.2.2.2.2.2.2.2.2.2.2.2.2.1 c1_13
                              refine va_ldcS hx hb hown (hZ.2.1 1 (by decide)) dX7_formBehind_107 ?_
                              exact W.aret hx hb hr (Or.inl ⟨_, rfl⟩) (Or.inr ⟨_, rfl⟩) (fun t ht hW => ⟨⟨1, _, rfl, hf, (by decide), rfl⟩, hS.F ht⟩) hS.2.2 dX7_formBehind_109 hlocks
                            · rcases Classical.em (x0 = 111) with c1_14 | c1_14
                              · refine lv_tableIn (off := 106) (tgt := 107) hx hb dX7_formBehind_1 (by rw [c1_14]; decide) (by rw [c1_14]; decide) (by rw [c1_14]; rfl) (by decide) ?_
                                replace hf := hf.2.2.2.2.2.2.2.2.2.2.2.2.2.2.1 c1_14
                                refine va_ldcS hx hb hown (hZ.2.1 1 (by decide)) dX7_formBehind_107 ?_
                                exact W.aret hx hb hr (Or.inl ⟨_, rfl⟩) (Or.inr ⟨_, rfl⟩) (fun t ht hW => ⟨⟨1, _, rfl, hf, (by decide), rfl⟩, hS.F ht⟩) hS.2.2 dX7_formBehind_109 hlocks
                              · rcases Classical.em (x0 = 112) with c1_15 | c1_15
                                · refine lv_tableIn (off := 115) (tgt := 116) hx hb dX7_formBehind_1 (by rw [c1_15]; decide) (by rw [c1_15]; decide) (by rw [c1_15]; rfl) (by decide) ?_
                                  replace hf := hf.2.2.2.2.2.2.2.2.2.2.2.2.2.2.2.1 c1_15
                                  refine va_ldcS hx hb hown (hZ.2.1 4 (by decide)) dX7_formBehind_116 ?_
                                  exact W.aret hx hb hr (Or.inl ⟨_, rfl⟩) (Or.inr ⟨_, rfl⟩) (fun t ht hW => ⟨⟨4, _, rfl, hf, (by decide), rfl⟩, hS.F ht⟩) hS.2.2 dX7_formBehind_118 hlocks
                                · rcases Classical.em (x0 = 113) with c1_16 | c1_16
                                  · refine lv_tableIn (off := 115) (tgt := 116) hx hb dX7_formBehind_1 (by rw [c1_16]; decide) (by rw [c1_16]; decide) (by rw [c1_16]; rfl) (by decide) ?_
                                    replace hf := hf.2.2.2.2.2.2.2.2.2.2.2.2.2.2.2.2.1 c1_16
                                    refine va_ldcS hx hb hown (hZ.2.1 4 (by decide)) dX7_formBehind_116 ?_
                                    exact W.aret hx hb hr (Or.inl ⟨_, rfl⟩) (Or.inr ⟨_, rfl⟩) (fun t ht hW => ⟨⟨4, _, rfl, hf, (by decide), rfl⟩, hS.F ht⟩) hS.2.2 dX7_formBehind_118 hlocks
                                  · rcases Classical.em (x0 = 114) with c1_17 | c1_17
                                    · refine lv_tableIn (off := 109) (tgt := 110) hx hb dX7_formBehind_1 (by rw [c1_17]; decide) (by rw [c1_17]; decide) (by rw [c1_17]; rfl) (by decide) ?_
                                      replace hf := hf.2.2.2.2.2.2.2.2.2.2.2.2.2.2.2.2.2.1 c1_17
                                      refine va_ldcS hx hb hown (hZ.2.1 2 (by decide)) dX7_formBehind_110 ?_
                                      exact W.aret hx hb hr (Or.inl ⟨_, rfl⟩) (Or.inr ⟨_, rfl⟩) (fun t ht hW => ⟨⟨2, _, rfl, hf, (by decide), rfl⟩, hS.F ht⟩) hS.2.2 dX7_formBehind_112 hlocks
                                    · rcases Classical.em (x0 = 115) with c1_18 | c1_18
                                      · refine lv_tableIn (off := 112) (tgt := 113) hx hb dX7_formBehind_1 (by rw [c1_18]; decide) (by rw [c1_18]; decide) (by rw [c1_18]; rfl) (by decide) ?_
                                        replace hf := hf.2.2.2.2.2.2.2.2.2.2.2.2.2.2.2.2.2.2.1 c1_18
                                        refine va_ldcS hx hb hown (hZ.2.1 3 (by decide)) dX7_formBehind_113 ?_
                                        exact W.aret hx hb hr (Or.inl ⟨_, rfl⟩) (Or.inr ⟨_, rfl⟩) (fun t ht hW => ⟨⟨3, _, rfl, hf, (by decide), rfl⟩, hS.F ht⟩) hS.2.2 dX7_formBehind_115 hlocks
                                      · rcases Classical.em (x0 = 116) with c1_19 | c1_19
                                        · refine lv_tableIn (off := 115) (tgt := 116) hx hb dX7_formBehind_1 (by rw [c1_19]; decide) (by rw [c1_19]; decide) (by rw [c1_19]; rfl) (by decide) ?_
                                          replace hf := hf.2.2.2.2.2.2.2.2.2.2.2.2.2.2.2.2.2.2.2.1 c1_19
                                          refine va_ldcS hx hb hown (hZ.2.1 4 (by decide)) dX7_formBehind_116 ?_
                                          exact W.aret hx hb hr (Or.inl ⟨_, rfl⟩) (Or.inr ⟨_, rfl⟩) (fun t ht hW => ⟨⟨4, _, rfl, hf, (by decide), rfl⟩, hS.F ht⟩) hS.2.2 dX7_formBehind_118 hlocks
                                        · rcases Classical.em (x0 = 117) with c1_20 | c1_20
                                          · refine lv_tableIn (off := 115) (tgt := 116) hx hb dX7_formBehind_1 (by rw [c1_20]; decide) (by rw [c1_20]; decide) (by rw [c1_20]; rfl) (by decide) ?_
                                            replace hf := hf.2.2.2.2.2.2.2.2.2.2.2.2.2.2.2.2.2.2.2.2.1 c1_20
                                            refine va_ldcS hx hb hown (hZ.2.1 4 (by decide)) dX7_formBehind_116 ?_
                                            exact W.aret hx hb hr (Or.inl ⟨_, rfl⟩) (Or.inr ⟨_, rfl⟩) (fun t ht hW => ⟨⟨4, _, rfl, hf, (by decide), rfl⟩, hS.F ht⟩) hS.2.2 dX7_formBehind_118 hlocks
                                          · rcases Classical.em (x0 = 118) with c1_21 | c1_21
                                            · refine lv_tableIn (off := 103) (tgt := 104) hx hb dX7_formBehind_1 (by rw [c1_21]; decide) (by rw [c1_21]; decide) (by rw [c1_21]; rfl) (by decide) ?_
                                              replace hf := hf.2.2.2.2.2.2.2.2.2.2.2.2.2.2.2.2.2.2.2.2.2.1 c1_21
                                              refine va_ldcS hx hb hown (hZ.2.1 0 (by decide)) dX7_formBehind_104 ?_
                                              exact W.aret hx hb hr (Or.inl ⟨_, rfl⟩) (Or.inr ⟨_, rfl⟩) (fun t ht hW => ⟨⟨0, _, rfl, hf, (by decide), rfl⟩, hS.F ht⟩) hS.2.2 dX7_formBehind_106 hlocks
                                            · have c1_o : Int32.toInt x0 < 97 ∨ 118 < Int32.toInt x0 := by
                                                have ec1_0 := z_ne c1_0
                                                have ec1_1 := z_ne c1_1
                                                have ec1_2 := z_ne c1_2
                                                have ec1_3 := z_ne c1_3
                                                have ec1_4 := z_ne c1_4
                                                have ec1_5 := z_ne c1_5
                                                have ec1_6 := z_ne c1_6
                                                have ec1_7 := z_ne c1_7
                                                have ec1_8 := z_ne c1_8
                                                have ec1_9 := z_ne c1_9
                                                have ec1_10 := z_ne c1_10
                                                have ec1_11 := z_ne c1_11
                                                have ec1_12 := z_ne c1_12
                                                have ec1_13 := z_ne c1_13
                                                have ec1_14 := z_ne c1_14
                                                have ec1_15 := z_ne c1_15
                                                have ec1_16 := z_ne c1_16
                                                have ec1_17 := z_ne c1_17
                                                have ec1_18 := z_ne c1_18
                                                have ec1_19 := z_ne c1_19
                                                have ec1_20 := z_ne c1_20
                                                have ec1_21 := z_ne c1_21
                                                simp at ec1_0 ec1_1 ec1_2 ec1_3 ec1_4 ec1_5 ec1_6 ec1_7 ec1_8 ec1_9 ec1_10 ec1_11 ec1_12 ec1_13 ec1_14 ec1_15 ec1_16 ec1_17 ec1_18 ec1_19 ec1_20 ec1_21
                                                omega
                                              refine lv_tableOut (tgt := 116) hx hb dX7_formBehind_1 c1_o (by decide) ?_
                                              replace hf := hf.2.2.2.2.2.2.2.2.2.2.2.2.2.2.2.2.2.2.2.2.2.2 c1_0 c1_1 c1_2 c1_3 c1_4 c1_5 c1_6 c1_7 c1_8 c1_9 c1_10 c1_11 c1_12 c1_13 c1_14 c1_15 c1_16 c1_17 c1_18 c1_19 c1_20 c1_21
                                              refine va_ldcS hx hb hown (hZ.2.1 4 (by decide)) dX7_formBehind_116 ?_
                                              exact W.aret hx hb hr (Or.inl ⟨_, rfl⟩) (Or.inr ⟨_, rfl⟩) (fun t ht hW => ⟨⟨4, _, rfl, hf, (by decide), rfl⟩, hS.F ht⟩) hS.2.2 dX7_formBehind_118 hlocks
def wp_X7_takePart (N : Nat) (x2 : Int32) (v_this_read : Int32) (v_this_reader : Int32) (v_this_place : Int32) (f_this_numbers : Nat → Int32) (v_p1_many : Int32) (f_p1_signs : Nat → Int32) (Φ : Int32 → Int32 → Int32 → Int32 → (Nat → Int32) → Prop) : Prop := 
    wp_X2_signAt N v_this_place v_p1_many f_p1_signs (fun r1 => 
     ((x2 = 57 → ((x2 = 35 → wp_X7_takeNumber N 1 v_this_read v_this_place f_this_numbers v_p1_many f_p1_signs (fun r5 o5_0 o5_1 o5_2 => 
     ((r5 = 0 ∨ r5 = 1) ∧ Φ r5 o5_0 v_this_reader o5_1 o5_2))) ∧
     (¬ (x2 = 35) → wp_X7_takeNumber N 0 v_this_read v_this_place f_this_numbers v_p1_many f_p1_signs (fun r4 o4_0 o4_1 o4_2 => 
     ((r4 = 0 ∨ r4 = 1) ∧ Φ r4 o4_0 v_this_reader o4_1 o4_2))))) ∧
     (¬ (x2 = 57) → ((x2 = 35 → ((x2 = 35 → wp_X7_takeNumber N 1 v_this_read v_this_place f_this_numbers v_p1_many f_p1_signs (fun r14 o14_0 o14_1 o14_2 => 
     ((r14 = 0 ∨ r14 = 1) ∧ Φ r14 o14_0 v_this_reader o14_1 o14_2))) ∧
     (¬ (x2 = 35) → wp_X7_takeNumber N 0 v_this_read v_this_place f_this_numbers v_p1_many f_p1_signs (fun r13 o13_0 o13_1 o13_2 => 
     ((r13 = 0 ∨ r13 = 1) ∧ Φ r13 o13_0 v_this_reader o13_1 o13_2))))) ∧
     (¬ (x2 = 35) → ((x2 = 107 → ((0 ≤ r1 → wp_J0_indexOf_0f7a4 N 5 (((r1).toUInt32 % 65536).toInt32) (fun r10 => 
     ((0 ≤ r10 → Φ 1 v_this_read r10 (v_this_place + 1) f_this_numbers) ∧
     (¬ (0 ≤ r10) → Φ 0 v_this_read r10 v_this_place f_this_numbers)))) ∧
     (¬ (0 ≤ r1) → Φ 0 v_this_read (-1) v_this_place f_this_numbers))) ∧
     (¬ (x2 = 107) → ((r1 = x2 → Φ 1 v_this_read v_this_reader (v_this_place + 1) f_this_numbers) ∧
     (¬ (r1 = x2) → Φ 0 v_this_read v_this_reader v_this_place f_this_numbers)))))))))
abbrev zW_X7_takePart (cI cC cS : ClassId) (q_this : Nat) (q_this_numbers : Nat) (q_p1 : Nat) (q_p1_signs : Nat) (q_this_draft : Nat) (v_this_read : Int32) (v_this_reader : Int32) (v_this_lead : Int32) (v_this_place : Int32) (f_this_numbers : Nat → Int32) (v_p1_many : Int32) (f_p1_signs : Nat → Int32) : va_W := [(q_this, .inr (6, [.ref q_this_draft, .ref q_this_numbers, .int v_this_read, .int v_this_reader, .int v_this_lead, .int v_this_place])),
  (q_this_numbers, .inl (cI, 2, .inl f_this_numbers)),
  (q_p1, .inr (2, [.ref q_p1_signs, .int v_p1_many])),
  (q_p1_signs, .inl (cI, 64, .inl f_p1_signs))]
abbrev zr_X7_takePart : Room := { frames := 4, cells := 0, slots := 0, locals := 96 }
set_option maxHeartbeats 4000000 in
set_option maxRecDepth 100000 in
theorem c_X7_takePart (l : Launch) (dC : Nat → ClassId) (dI : Nat → Nat → Nat) (cI cC cS : ClassId) (adK adV : Nat → Nat) (fm : Value) (q_this : Nat) (q_this_numbers : Nat) (q_p1 : Nat) (q_p1_signs : Nat) (q_this_draft : Nat) (sz : Nat) (v_this_read : Int32) (v_this_reader : Int32) (v_this_lead : Int32) (v_this_place : Int32) (f_this_numbers : Nat → Int32) (v_p1_many : Int32) (f_p1_signs : Nat → Int32) (x2 : Int32) (N : Nat) (Φ : Int32 → Int32 → Int32 → Int32 → (Nat → Int32) → Prop)  (hf : wp_X7_takePart N x2 v_this_read v_this_reader v_this_place f_this_numbers v_p1_many f_p1_signs Φ) : Met l yX7_takePart wsX7_takePart zr_X7_takePart (zPcS (dC, dI) (zT cI cC cS) adK adV fm [.ref q_this, .ref q_p1, .int x2] sz (zW_X7_takePart cI cC cS q_this q_this_numbers q_p1 q_p1_signs q_this_draft v_this_read v_this_reader v_this_lead v_this_place f_this_numbers v_p1_many f_p1_signs)) (zQi (dC, dI) (zT cI cC cS) (va_A (zW_X7_takePart cI cC cS q_this q_this_numbers q_p1 q_p1_signs q_this_draft v_this_read v_this_reader v_this_lead v_this_place f_this_numbers v_p1_many f_p1_signs) sz) (fun (r : Int32) (u : (Int32) × (Int32) × (Int32) × (Nat → Int32)) => Φ r u.1 u.2.1 u.2.2.1 u.2.2.2) (fun u => (zW_X7_takePart cI cC cS q_this q_this_numbers q_p1 q_p1_signs q_this_draft u.1 u.2.1 v_this_lead u.2.2.1 u.2.2.2 v_p1_many f_p1_signs))) 0 0 (va_A (zW_X7_takePart cI cC cS q_this q_this_numbers q_p1 q_p1_signs q_this_draft v_this_read v_this_reader v_this_lead v_this_place f_this_numbers v_p1_many f_p1_signs) sz) := by
  refine Met.ofW (cc := cX7_takePart) (maxL := 4) (ret := (some .boolean)) (by decide) rfl ?_
  intro p e s m args below meth c s₁ B hml hv
  obtain ⟨rfl, hsz, hP, hK, hD0, hZ⟩ := hv
  have hx := B.exec
  have hb := B.bytes
  have hr := B.returns
  have hts := atoms_spec (ws := wsX7_takePart) B.pre
  have hown : s.vm.findClass RX7 = some m.cls := findClass_of_methodNamed B.named
  have hlocks := B.notSynchronized
  subst hsz
  have hD := hD0.self (sz := s.heap.size)
  have hA : ∀ q : Nat, s.heap.size ≤ q → va_A (zW_X7_takePart cI cC cS q_this q_this_numbers q_p1 q_p1_signs q_this_draft v_this_read v_this_reader v_this_lead v_this_place f_this_numbers v_p1_many f_p1_signs) s.heap.size q := fun q h => Or.inr h
  generalize va_A (zW_X7_takePart cI cC cS q_this q_this_numbers q_p1 q_p1_signs q_this_draft v_this_read v_this_reader v_this_lead v_this_place f_this_numbers v_p1_many f_p1_signs) s.heap.size = A at hD hA hZ ⊢
  have hS : va_S A s.heap s.heap [] := va_S.rf
  have hl := lv_entry ([.ref q_this, .ref q_p1, .int x2]) (n := 4) (Nat.le_of_ble_eq_true rfl)
  rw [lg_entry_eq]
  generalize (lg_sl ([.ref q_this, .ref q_p1, .int x2]) ++ List.replicate (4 - (lg_sl ([.ref q_this, .ref q_p1, .int x2])).length) Slot.unset).toArray = ls at hl ⊢
  have hl : lv_has ls 4 [(0, .ref q_this), (1, .ref q_p1), (2, .int x2)] := hl
  have lk1 := hts (.fieldLink RX7 32 "ReadFromAnywhere$Teller" "place" "I") (List.mem_of_getElem? (i := 1) rfl)
  have inX7 : ∀ w ∈ u_ws RX7 TX7 6, w ∈ wsX7_takePart := fun _ h => List.mem_cons_of_mem _ (List.mem_append_left _ (List.mem_append_right _ h))
  have lk2 := hts (.fieldLink RX7 26 "ReadFromAnywhere$Teller" "reader" "I") (List.mem_of_getElem? (i := 2) rfl)
  unfold wp_X7_takePart at hf
  refine lv_aload_n hx hb dX7_takePart_0 rfl (lv_at hl 1 rfl) ?_
  refine lv_aload_n hx hb dX7_takePart_1 rfl (lv_at hl 0 rfl) ?_
  refine va_get (D := (dC, dI)) (ci := 6) (v := .int v_this_place) (C := RX7) (T := TX7) (N := 6) hx hb hts inX7 hown hK hP 0 rfl rfl 5 (by decide) lk1 (fun _ h9 => h9) rfl dX7_takePart_2 ?_
  refine z_Vi (n := 1) (As := [.int v_this_place]) (rest := []) ⟨hx, hb, hml, hown, hts⟩ (c_X2_signAt l dC dI cI cC cS q_p1 q_p1_signs _ v_p1_many f_p1_signs v_this_place N _  hf) gX7_takePart_X2_signAt rfl rfl rfl (by decide +kernel) ⟨Nat.le_of_ble_eq_true rfl, Nat.le_of_ble_eq_true rfl⟩ hK hP hD hS hA 2 2 rfl rfl rfl hl.1 rfl (Nat.le_of_ble_eq_true rfl) dX7_takePart_5 ⟨Nat.zero_le _, Nat.zero_le _⟩ [2, 3] [0, 1] (([(q_this, .inr (6, [.ref q_this_draft, .ref q_this_numbers, .int v_this_read, .int v_this_reader, .int v_this_lead, .int v_this_place])), (q_this_numbers, .inl (cI, 2, .inl f_this_numbers))] : va_W)) rfl rfl (by decide) (by decide) (by decide) (fun u => (zW_X7_takePart cI cC cS q_this q_this_numbers q_p1 q_p1_signs q_this_draft v_this_read v_this_reader v_this_lead v_this_place f_this_numbers v_p1_many f_p1_signs)) [0, 1, 2, 3] (fun u => rfl) (by decide) (fun r1 u1 H locs hf hP hD hS => ?_)
  have hP : va_P (dC, dI) vwCl (zW_X7_takePart cI cC cS q_this q_this_numbers q_p1 q_p1_signs q_this_draft v_this_read v_this_reader v_this_lead v_this_place f_this_numbers v_p1_many f_p1_signs) H := hP
  have hD : va_D A (zW_X7_takePart cI cC cS q_this q_this_numbers q_p1 q_p1_signs q_this_draft v_this_read v_this_reader v_this_lead v_this_place f_this_numbers v_p1_many f_p1_signs) := hD
  refine lv_istore_n (lv' := [(3, .int r1), (0, .ref q_this), (1, .ref q_p1), (2, .int x2)]) hx hb dX7_takePart_8 rfl hl (by decide) rfl (fun ls hl => ?_)
  refine lv_iload_n hx hb dX7_takePart_9 rfl (lv_at hl 3 rfl) ?_
  refine lv_bipush (v := 57) hx hb dX7_takePart_10 (by decide) ?_
  refine lv_icmp_eq (tgt := 21) hx hb dX7_takePart_12 (by decide) (fun c2 => ?_) (fun c2 => ?_)
  · replace hf := hf.1 c2
    refine lv_aload_n hx hb dX7_takePart_21 rfl (lv_at hl 1 rfl) ?_
    refine lv_aload_n hx hb dX7_takePart_22 rfl (lv_at hl 2 rfl) ?_
    refine lv_iload_n hx hb dX7_takePart_23 rfl (lv_at hl 3 rfl) ?_
    refine lv_bipush (v := 35) hx hb dX7_takePart_24 (by decide) ?_
    refine lv_icmp_ne (tgt := 33) hx hb dX7_takePart_26 (by decide) (fun c3 => ?_) (fun c3 => ?_)
    · replace hf := hf.2 c3
      refine lv_iconst (v := 0) hx hb dX7_takePart_33 (by decide) ?_
      refine z_Vi (n := 2) (As := [.ref q_p1, .int 0]) (rest := []) ⟨hx, hb, hml, hown, hts⟩ (c_X7_takeNumber l dC dI cI cC cS q_this q_this_numbers q_p1 q_p1_signs q_this_draft _ v_this_read v_this_reader v_this_lead v_this_place f_this_numbers v_p1_many f_p1_signs 0 N _  hf) gX7_takePart_X7_takeNumber rfl rfl rfl (by decide +kernel) ⟨Nat.le_of_ble_eq_true rfl, Nat.le_of_ble_eq_true rfl⟩ hK hP hD hS hA 0 6 rfl rfl rfl hl.1 rfl (Nat.le_of_ble_eq_true rfl) dX7_takePart_34 ⟨Nat.zero_le _, Nat.zero_le _⟩ [0, 1, 2, 3] [] (([] : va_W)) rfl rfl (by decide) (by decide) (by decide) (fun u => (zW_X7_takePart cI cC cS q_this q_this_numbers q_p1 q_p1_signs q_this_draft u.1 v_this_reader v_this_lead u.2.1 u.2.2 v_p1_many f_p1_signs)) [0, 1, 2, 3] (fun u => rfl) (by decide) (fun r4 u4 H locs hf hP hD hS => ?_)
      have hP : va_P (dC, dI) vwCl (zW_X7_takePart cI cC cS q_this q_this_numbers q_p1 q_p1_signs q_this_draft u4.1 v_this_reader v_this_lead u4.2.1 u4.2.2 v_p1_many f_p1_signs) H := hP
      have hD : va_D A (zW_X7_takePart cI cC cS q_this q_this_numbers q_p1 q_p1_signs q_this_draft u4.1 v_this_reader v_this_lead u4.2.1 u4.2.2 v_p1_many f_p1_signs) := hD
      exact z_zret hx hb hr (z_nz hf.1) hlocks (u4.1, v_this_reader, u4.2.1, u4.2.2) hf.2 hK hP hD hS dX7_takePart_37
    · replace hf := hf.1 c3
      refine lv_iconst (v := 1) hx hb dX7_takePart_29 (by decide) ?_
      refine lv_goto (tgt := 34) hx hb dX7_takePart_30 (by decide) ?_
      refine z_Vi (n := 2) (As := [.ref q_p1, .int 1]) (rest := []) ⟨hx, hb, hml, hown, hts⟩ (c_X7_takeNumber l dC dI cI cC cS q_this q_this_numbers q_p1 q_p1_signs q_this_draft _ v_this_read v_this_reader v_this_lead v_this_place f_this_numbers v_p1_many f_p1_signs 1 N _  hf) gX7_takePart_X7_takeNumber rfl rfl rfl (by decide +kernel) ⟨Nat.le_of_ble_eq_true rfl, Nat.le_of_ble_eq_true rfl⟩ hK hP hD hS hA 0 6 rfl rfl rfl hl.1 rfl (Nat.le_of_ble_eq_true rfl) dX7_takePart_34 ⟨Nat.zero_le _, Nat.zero_le _⟩ [0, 1, 2, 3] [] (([] : va_W)) rfl rfl (by decide) (by decide) (by decide) (fun u => (zW_X7_takePart cI cC cS q_this q_this_numbers q_p1 q_p1_signs q_this_draft u.1 v_this_reader v_this_lead u.2.1 u.2.2 v_p1_many f_p1_signs)) [0, 1, 2, 3] (fun u => rfl) (by decide) (fun r5 u5 H locs hf hP hD hS => ?_)
      have hP : va_P (dC, dI) vwCl (zW_X7_takePart cI cC cS q_this q_this_numbers q_p1 q_p1_signs q_this_draft u5.1 v_this_reader v_this_lead u5.2.1 u5.2.2 v_p1_many f_p1_signs) H := hP
      have hD : va_D A (zW_X7_takePart cI cC cS q_this q_this_numbers q_p1 q_p1_signs q_this_draft u5.1 v_this_reader v_this_lead u5.2.1 u5.2.2 v_p1_many f_p1_signs) := hD
      exact z_zret hx hb hr (z_nz hf.1) hlocks (u5.1, v_this_reader, u5.2.1, u5.2.2) hf.2 hK hP hD hS dX7_takePart_37
  · replace hf := hf.2 c2
    refine lv_iload_n hx hb dX7_takePart_15 rfl (lv_at hl 3 rfl) ?_
    refine lv_bipush (v := 35) hx hb dX7_takePart_16 (by decide) ?_
    refine lv_icmp_ne (tgt := 38) hx hb dX7_takePart_18 (by decide) (fun c6 => ?_) (fun c6 => ?_)
    · replace hf := hf.2 c6
      refine lv_iload_n hx hb dX7_takePart_38 rfl (lv_at hl 3 rfl) ?_
      refine lv_bipush (v := 107) hx hb dX7_takePart_39 (by decide) ?_
      refine lv_icmp_ne (tgt := 72) hx hb dX7_takePart_41 (by decide) (fun c7 => ?_) (fun c7 => ?_)
      · replace hf := hf.2 c7
        refine lv_iload_n hx hb dX7_takePart_72 rfl (lv_at hl 0 rfl) ?_
        refine lv_iload_n hx hb dX7_takePart_73 rfl (lv_at hl 3 rfl) ?_
        refine lv_icmp_eq (tgt := 79) hx hb dX7_takePart_74 (by decide) (fun c8 => ?_) (fun c8 => ?_)
        · replace hf := hf.1 c8
          refine lv_aload_n hx hb dX7_takePart_79 rfl (lv_at hl 1 rfl) ?_
          refine lv_dup hx hb dX7_takePart_80 rfl ?_
          refine va_get (D := (dC, dI)) (ci := 6) (v := .int v_this_place) (C := RX7) (T := TX7) (N := 6) hx hb hts inX7 hown hK hP 0 rfl rfl 5 (by decide) lk1 (fun _ h9 => h9) rfl dX7_takePart_81 ?_
          refine lv_iconst (v := 1) hx hb dX7_takePart_84 (by decide) ?_
          refine lv_iadd hx hb dX7_takePart_85 ?_
          refine va_put (D := (dC, dI)) (ci := 6) (v := .int (v_this_place + 1)) (ty := .int) (C := RX7) (T := TX7) (N := 6) hx hb hts inX7 tyX7 tyX7_ok nmX7 hown hK hP hD hS 0 rfl rfl 5 (by decide) lk1 (fun _ h9 => h9) rfl (by decide +kernel) rfl rfl (Nat.le_of_ble_eq_true rfl) dX7_takePart_86 (fun H locs hP hD hS => ?_)
          have hP : va_P (dC, dI) vwCl (zW_X7_takePart cI cC cS q_this q_this_numbers q_p1 q_p1_signs q_this_draft v_this_read v_this_reader v_this_lead (v_this_place + 1) f_this_numbers v_p1_many f_p1_signs) H := hP
          have hD : va_D A (zW_X7_takePart cI cC cS q_this q_this_numbers q_p1 q_p1_signs q_this_draft v_this_read v_this_reader v_this_lead (v_this_place + 1) f_this_numbers v_p1_many f_p1_signs) := hD
          refine lv_iconst (v := 1) hx hb dX7_takePart_89 (by decide) ?_
          exact z_zret hx hb hr rfl hlocks (v_this_read, v_this_reader, (v_this_place + 1), f_this_numbers) hf hK hP hD hS dX7_takePart_90
        · replace hf := hf.2 c8
          refine lv_iconst (v := 0) hx hb dX7_takePart_77 (by decide) ?_
          exact z_zret hx hb hr rfl hlocks (v_this_read, v_this_reader, v_this_place, f_this_numbers) hf hK hP hD hS dX7_takePart_78
      · replace hf := hf.1 c7
        refine lv_aload_n hx hb dX7_takePart_44 rfl (lv_at hl 1 rfl) ?_
        refine lv_iload_n hx hb dX7_takePart_45 rfl (lv_at hl 0 rfl) ?_
        refine lv_if_ge (tgt := 53) hx hb dX7_takePart_46 (by decide) (fun c9 => ?_) (fun c9 => ?_)
        · replace hf := hf.1 c9
          refine va_ldcS hx hb hown (hZ.2.1 5 (by decide)) dX7_takePart_53 ?_
          refine lv_iload_n hx hb dX7_takePart_55 rfl (lv_at hl 0 rfl) ?_
          refine lv_i2c hx hb dX7_takePart_56 rfl ?_
          refine zs_Vi (n := 1) (As := [.int (((r1).toUInt32 % 65536).toInt32)]) (rest := [.ref q_this]) ⟨hx, hb, hml, hown, hts⟩ (c_J0_indexOf_0f7a4 l dC dI cI cC cS adK adV fm  _ 5 (by decide) (((r1).toUInt32 % 65536).toInt32) N _  hf) gX7_takePart_J0_indexOf_0f7a4 rfl rfl rfl (by decide +kernel) ⟨Nat.le_of_ble_eq_true rfl, Nat.le_of_ble_eq_true rfl⟩ hK hP hD hS hA hZ (vk_recv hZ.1 (by decide) hS) rfl hl.1 rfl (Nat.le_of_ble_eq_true rfl) dX7_takePart_57 ⟨Nat.zero_le _, Nat.zero_le _⟩ [] [0, 1, 2, 3] (([(q_this, .inr (6, [.ref q_this_draft, .ref q_this_numbers, .int v_this_read, .int v_this_reader, .int v_this_lead, .int v_this_place])), (q_this_numbers, .inl (cI, 2, .inl f_this_numbers)), (q_p1, .inr (2, [.ref q_p1_signs, .int v_p1_many])), (q_p1_signs, .inl (cI, 64, .inl f_p1_signs))] : va_W)) rfl rfl (by decide) (by decide) (by decide) (fun u => (zW_X7_takePart cI cC cS q_this q_this_numbers q_p1 q_p1_signs q_this_draft v_this_read v_this_reader v_this_lead v_this_place f_this_numbers v_p1_many f_p1_signs)) [0, 1, 2, 3] (fun u => rfl) (by decide) (fun r10 u10 H locs hf hP hD hS => ?_)
          have hP : va_P (dC, dI) vwCl (zW_X7_takePart cI cC cS q_this q_this_numbers q_p1 q_p1_signs q_this_draft v_this_read v_this_reader v_this_lead v_this_place f_this_numbers v_p1_many f_p1_signs) H := hP
          have hD : va_D A (zW_X7_takePart cI cC cS q_this q_this_numbers q_p1 q_p1_signs q_this_draft v_this_read v_this_reader v_this_lead v_this_place f_this_numbers v_p1_many f_p1_signs) := hD
          refine va_put (D := (dC, dI)) (ci := 6) (v := .int r10) (ty := .int) (C := RX7) (T := TX7) (N := 6) hx hb hts inX7 tyX7 tyX7_ok nmX7 hown hK hP hD hS 0 rfl rfl 3 (by decide) lk2 (fun _ h9 => h9) rfl (by decide +kernel) rfl rfl (Nat.le_of_ble_eq_true rfl) dX7_takePart_60 (fun H locs hP hD hS => ?_)
          have hP : va_P (dC, dI) vwCl (zW_X7_takePart cI cC cS q_this q_this_numbers q_p1 q_p1_signs q_this_draft v_this_read r10 v_this_lead v_this_place f_this_numbers v_p1_many f_p1_signs) H := hP
          have hD : va_D A (zW_X7_takePart cI cC cS q_this q_this_numbers q_p1 q_p1_signs q_this_draft v_this_read r10 v_this_lead v_this_place f_this_numbers v_p1_many f_p1_signs) := hD
          refine lv_aload_n hx hb dX7_takePart_63 rfl (lv_at hl 1 rfl) ?_
          refine va_get (D := (dC, dI)) (ci := 6) (v := .int r10) (C := RX7) (T := TX7) (N := 6) hx hb hts inX7 hown hK hP 0 rfl rfl 3 (by decide) lk2 (fun _ h9 => h9) rfl dX7_takePart_64 ?_
          refine lv_if_ge (tgt := 79) hx hb dX7_takePart_67 (by decide) (fun c11 => ?_) (fun c11 => ?_)
          · replace hf := hf.1 c11
            refine lv_aload_n hx hb dX7_takePart_79 rfl (lv_at hl 1 rfl) ?_
            refine lv_dup hx hb dX7_takePart_80 rfl ?_
            refine va_get (D := (dC, dI)) (ci := 6) (v := .int v_this_place) (C := RX7) (T := TX7) (N := 6) hx hb hts inX7 hown hK hP 0 rfl rfl 5 (by decide) lk1 (fun _ h9 => h9) rfl dX7_takePart_81 ?_
            refine lv_iconst (v := 1) hx hb dX7_takePart_84 (by decide) ?_
            refine lv_iadd hx hb dX7_takePart_85 ?_
            refine va_put (D := (dC, dI)) (ci := 6) (v := .int (v_this_place + 1)) (ty := .int) (C := RX7) (T := TX7) (N := 6) hx hb hts inX7 tyX7 tyX7_ok nmX7 hown hK hP hD hS 0 rfl rfl 5 (by decide) lk1 (fun _ h9 => h9) rfl (by decide +kernel) rfl rfl (Nat.le_of_ble_eq_true rfl) dX7_takePart_86 (fun H locs hP hD hS => ?_)
            have hP : va_P (dC, dI) vwCl (zW_X7_takePart cI cC cS q_this q_this_numbers q_p1 q_p1_signs q_this_draft v_this_read r10 v_this_lead (v_this_place + 1) f_this_numbers v_p1_many f_p1_signs) H := hP
            have hD : va_D A (zW_X7_takePart cI cC cS q_this q_this_numbers q_p1 q_p1_signs q_this_draft v_this_read r10 v_this_lead (v_this_place + 1) f_this_numbers v_p1_many f_p1_signs) := hD
            refine lv_iconst (v := 1) hx hb dX7_takePart_89 (by decide) ?_
            exact z_zret hx hb hr rfl hlocks (v_this_read, r10, (v_this_place + 1), f_this_numbers) hf hK hP hD hS dX7_takePart_90
          · replace hf := hf.2 c11
            refine lv_iconst (v := 0) hx hb dX7_takePart_70 (by decide) ?_
            exact z_zret hx hb hr rfl hlocks (v_this_read, r10, v_this_place, f_this_numbers) hf hK hP hD hS dX7_takePart_71
        · replace hf := hf.2 c9
          refine lv_iconst (v := (-1)) hx hb dX7_takePart_49 (by decide) ?_
          refine lv_goto (tgt := 60) hx hb dX7_takePart_50 (by decide) ?_
          refine va_put (D := (dC, dI)) (ci := 6) (v := .int (-1)) (ty := .int) (C := RX7) (T := TX7) (N := 6) hx hb hts inX7 tyX7 tyX7_ok nmX7 hown hK hP hD hS 0 rfl rfl 3 (by decide) lk2 (fun _ h9 => h9) rfl (by decide +kernel) rfl rfl (Nat.le_of_ble_eq_true rfl) dX7_takePart_60 (fun H locs hP hD hS => ?_)
          have hP : va_P (dC, dI) vwCl (zW_X7_takePart cI cC cS q_this q_this_numbers q_p1 q_p1_signs q_this_draft v_this_read (-1) v_this_lead v_this_place f_this_numbers v_p1_many f_p1_signs) H := hP
          have hD : va_D A (zW_X7_takePart cI cC cS q_this q_this_numbers q_p1 q_p1_signs q_this_draft v_this_read (-1) v_this_lead v_this_place f_this_numbers v_p1_many f_p1_signs) := hD
          refine lv_aload_n hx hb dX7_takePart_63 rfl (lv_at hl 1 rfl) ?_
          refine va_get (D := (dC, dI)) (ci := 6) (v := .int (-1)) (C := RX7) (T := TX7) (N := 6) hx hb hts inX7 hown hK hP 0 rfl rfl 3 (by decide) lk2 (fun _ h9 => h9) rfl dX7_takePart_64 ?_
          refine lv_if_ge (tgt := 79) hx hb dX7_takePart_67 (by decide) (fun c9 => absurd c9 (by decide)) (fun _ => ?_)
          refine lv_iconst (v := 0) hx hb dX7_takePart_70 (by decide) ?_
          exact z_zret hx hb hr rfl hlocks (v_this_read, (-1), v_this_place, f_this_numbers) hf hK hP hD hS dX7_takePart_71
    · replace hf := hf.1 c6
      refine lv_aload_n hx hb dX7_takePart_21 rfl (lv_at hl 1 rfl) ?_
      refine lv_aload_n hx hb dX7_takePart_22 rfl (lv_at hl 2 rfl) ?_
      refine lv_iload_n hx hb dX7_takePart_23 rfl (lv_at hl 3 rfl) ?_
      refine lv_bipush (v := 35) hx hb dX7_takePart_24 (by decide) ?_
      refine lv_icmp_ne (tgt := 33) hx hb dX7_takePart_26 (by decide) (fun c12 => ?_) (fun c12 => ?_)
      · replace hf := hf.2 c12
        refine lv_iconst (v := 0) hx hb dX7_takePart_33 (by decide) ?_
        refine z_Vi (n := 2) (As := [.ref q_p1, .int 0]) (rest := []) ⟨hx, hb, hml, hown, hts⟩ (c_X7_takeNumber l dC dI cI cC cS q_this q_this_numbers q_p1 q_p1_signs q_this_draft _ v_this_read v_this_reader v_this_lead v_this_place f_this_numbers v_p1_many f_p1_signs 0 N _  hf) gX7_takePart_X7_takeNumber rfl rfl rfl (by decide +kernel) ⟨Nat.le_of_ble_eq_true rfl, Nat.le_of_ble_eq_true rfl⟩ hK hP hD hS hA 0 6 rfl rfl rfl hl.1 rfl (Nat.le_of_ble_eq_true rfl) dX7_takePart_34 ⟨Nat.zero_le _, Nat.zero_le _⟩ [0, 1, 2, 3] [] (([] : va_W)) rfl rfl (by decide) (by decide) (by decide) (fun u => (zW_X7_takePart cI cC cS q_this q_this_numbers q_p1 q_p1_signs q_this_draft u.1 v_this_reader v_this_lead u.2.1 u.2.2 v_p1_many f_p1_signs)) [0, 1, 2, 3] (fun u => rfl) (by decide) (fun r13 u13 H locs hf hP hD hS => ?_)
        have hP : va_P (dC, dI) vwCl (zW_X7_takePart cI cC cS q_this q_this_numbers q_p1 q_p1_signs q_this_draft u13.1 v_this_reader v_this_lead u13.2.1 u13.2.2 v_p1_many f_p1_signs) H := hP
        have hD : va_D A (zW_X7_takePart cI cC cS q_this q_this_numbers q_p1 q_p1_signs q_this_draft u13.1 v_this_reader v_this_lead u13.2.1 u13.2.2 v_p1_many f_p1_signs) := hD
        exact z_zret hx hb hr (z_nz hf.1) hlocks (u13.1, v_this_reader, u13.2.1, u13.2.2) hf.2 hK hP hD hS dX7_takePart_37
      · replace hf := hf.1 c12
        refine lv_iconst (v := 1) hx hb dX7_takePart_29 (by decide) ?_
        refine lv_goto (tgt := 34) hx hb dX7_takePart_30 (by decide) ?_
        refine z_Vi (n := 2) (As := [.ref q_p1, .int 1]) (rest := []) ⟨hx, hb, hml, hown, hts⟩ (c_X7_takeNumber l dC dI cI cC cS q_this q_this_numbers q_p1 q_p1_signs q_this_draft _ v_this_read v_this_reader v_this_lead v_this_place f_this_numbers v_p1_many f_p1_signs 1 N _  hf) gX7_takePart_X7_takeNumber rfl rfl rfl (by decide +kernel) ⟨Nat.le_of_ble_eq_true rfl, Nat.le_of_ble_eq_true rfl⟩ hK hP hD hS hA 0 6 rfl rfl rfl hl.1 rfl (Nat.le_of_ble_eq_true rfl) dX7_takePart_34 ⟨Nat.zero_le _, Nat.zero_le _⟩ [0, 1, 2, 3] [] (([] : va_W)) rfl rfl (by decide) (by decide) (by decide) (fun u => (zW_X7_takePart cI cC cS q_this q_this_numbers q_p1 q_p1_signs q_this_draft u.1 v_this_reader v_this_lead u.2.1 u.2.2 v_p1_many f_p1_signs)) [0, 1, 2, 3] (fun u => rfl) (by decide) (fun r14 u14 H locs hf hP hD hS => ?_)
        have hP : va_P (dC, dI) vwCl (zW_X7_takePart cI cC cS q_this q_this_numbers q_p1 q_p1_signs q_this_draft u14.1 v_this_reader v_this_lead u14.2.1 u14.2.2 v_p1_many f_p1_signs) H := hP
        have hD : va_D A (zW_X7_takePart cI cC cS q_this q_this_numbers q_p1 q_p1_signs q_this_draft u14.1 v_this_reader v_this_lead u14.2.1 u14.2.2 v_p1_many f_p1_signs) := hD
        exact z_zret hx hb hr (z_nz hf.1) hlocks (u14.1, v_this_reader, u14.2.1, u14.2.2) hf.2 hK hP hD hS dX7_takePart_37
def lp_X7_takeStatement_46 (N : Nat) (s2 : Nat) (v_this_lead : Int32) (v_p1_many : Int32) (f_p1_signs : Nat → Int32) (Φ : Int32 → Int32 → Int32 → Int32 → Int32 → (Nat → Int32) → Prop) : Nat → Int32 → Int32 → Int32 → Int32 → (Nat → Int32) → Prop
  | 0, _, _, _, _, _ => False
  | n + 1, x3, v_this_read, v_this_reader, v_this_place, f_this_numbers => 
    (s2 < 7 ∧ wp_J0_length_8abf5 N s2 (fun r1 => 
     ((r1 ≤ x3 → Φ 1 v_this_read v_this_reader v_this_lead v_this_place f_this_numbers) ∧
     (¬ (r1 ≤ x3) → (s2 < 7 ∧ wp_J0_charAt_5068e N s2 x3 (fun r3 => 
     wp_X7_takePart N r3 v_this_read v_this_reader v_this_place f_this_numbers v_p1_many f_p1_signs (fun r4 o4_0 o4_1 o4_2 o4_3 => 
     ((r4 = 0 → Φ 0 o4_0 o4_1 v_this_lead o4_2 o4_3) ∧
     (¬ (r4 = 0) → (lp_X7_takeStatement_46 N s2 v_this_lead v_p1_many f_p1_signs Φ n) (x3 + 1) o4_0 o4_1 o4_2 o4_3)))))))))
def wp_X7_takeStatement (N : Nat) (v_this_read : Int32) (v_this_reader : Int32) (v_this_lead : Int32) (v_this_place : Int32) (f_this_numbers : Nat → Int32) (v_p1_many : Int32) (f_p1_signs : Nat → Int32) (Φ : Int32 → Int32 → Int32 → Int32 → Int32 → (Nat → Int32) → Prop) : Prop := 
    wp_X2_signAt N v_this_place v_p1_many f_p1_signs (fun r1 => 
     wp_X7_formBehind N r1 (fun r2 => 
     (r2 < 7 ∧ wp_J0_isEmpty_aae02 N r2 (fun r3 => 
     ((r3 = 0 → lp_X7_takeStatement_46 N r2 r1 v_p1_many f_p1_signs Φ N 0 0 v_this_reader (v_this_place + 1) f_this_numbers) ∧
     (¬ (r3 = 0) → Φ 0 0 v_this_reader r1 v_this_place f_this_numbers))))))
abbrev zW_X7_takeStatement (cI cC cS : ClassId) (q_this : Nat) (q_this_numbers : Nat) (q_p1 : Nat) (q_p1_signs : Nat) (q_this_draft : Nat) (v_this_read : Int32) (v_this_reader : Int32) (v_this_lead : Int32) (v_this_place : Int32) (f_this_numbers : Nat → Int32) (v_p1_many : Int32) (f_p1_signs : Nat → Int32) : va_W := [(q_this, .inr (6, [.ref q_this_draft, .ref q_this_numbers, .int v_this_read, .int v_this_reader, .int v_this_lead, .int v_this_place])),
  (q_this_numbers, .inl (cI, 2, .inl f_this_numbers)),
  (q_p1, .inr (2, [.ref q_p1_signs, .int v_p1_many])),
  (q_p1_signs, .inl (cI, 64, .inl f_p1_signs))]
abbrev zr_X7_takeStatement : Room := { frames := 5, cells := 0, slots := 0, locals := 119 }
set_option maxHeartbeats 4000000 in
set_option maxRecDepth 100000 in
theorem c_X7_takeStatement (l : Launch) (dC : Nat → ClassId) (dI : Nat → Nat → Nat) (cI cC cS : ClassId) (adK adV : Nat → Nat) (fm : Value) (q_this : Nat) (q_this_numbers : Nat) (q_p1 : Nat) (q_p1_signs : Nat) (q_this_draft : Nat) (sz : Nat) (v_this_read : Int32) (v_this_reader : Int32) (v_this_lead : Int32) (v_this_place : Int32) (f_this_numbers : Nat → Int32) (v_p1_many : Int32) (f_p1_signs : Nat → Int32) (N : Nat) (Φ : Int32 → Int32 → Int32 → Int32 → Int32 → (Nat → Int32) → Prop)  (hf : wp_X7_takeStatement N v_this_read v_this_reader v_this_lead v_this_place f_this_numbers v_p1_many f_p1_signs Φ) : Met l yX7_takeStatement wsX7_takeStatement zr_X7_takeStatement (zPcS (dC, dI) (zT cI cC cS) adK adV fm [.ref q_this, .ref q_p1] sz (zW_X7_takeStatement cI cC cS q_this q_this_numbers q_p1 q_p1_signs q_this_draft v_this_read v_this_reader v_this_lead v_this_place f_this_numbers v_p1_many f_p1_signs)) (zQi (dC, dI) (zT cI cC cS) (va_A (zW_X7_takeStatement cI cC cS q_this q_this_numbers q_p1 q_p1_signs q_this_draft v_this_read v_this_reader v_this_lead v_this_place f_this_numbers v_p1_many f_p1_signs) sz) (fun (r : Int32) (u : (Int32) × (Int32) × (Int32) × (Int32) × (Nat → Int32)) => Φ r u.1 u.2.1 u.2.2.1 u.2.2.2.1 u.2.2.2.2) (fun u => (zW_X7_takeStatement cI cC cS q_this q_this_numbers q_p1 q_p1_signs q_this_draft u.1 u.2.1 u.2.2.1 u.2.2.2.1 u.2.2.2.2 v_p1_many f_p1_signs))) 0 0 (va_A (zW_X7_takeStatement cI cC cS q_this q_this_numbers q_p1 q_p1_signs q_this_draft v_this_read v_this_reader v_this_lead v_this_place f_this_numbers v_p1_many f_p1_signs) sz) := by
  refine Met.ofW (cc := cX7_takeStatement) (maxL := 4) (ret := (some .boolean)) (by decide) rfl ?_
  intro p e s m args below meth c s₁ B hml hv
  obtain ⟨rfl, hsz, hP, hK, hD0, hZ⟩ := hv
  have hx := B.exec
  have hb := B.bytes
  have hr := B.returns
  have hts := atoms_spec (ws := wsX7_takeStatement) B.pre
  have hown : s.vm.findClass RX7 = some m.cls := findClass_of_methodNamed B.named
  have hlocks := B.notSynchronized
  subst hsz
  have hD := hD0.self (sz := s.heap.size)
  have hA : ∀ q : Nat, s.heap.size ≤ q → va_A (zW_X7_takeStatement cI cC cS q_this q_this_numbers q_p1 q_p1_signs q_this_draft v_this_read v_this_reader v_this_lead v_this_place f_this_numbers v_p1_many f_p1_signs) s.heap.size q := fun q h => Or.inr h
  generalize va_A (zW_X7_takeStatement cI cC cS q_this q_this_numbers q_p1 q_p1_signs q_this_draft v_this_read v_this_reader v_this_lead v_this_place f_this_numbers v_p1_many f_p1_signs) s.heap.size = A at hD hA hZ ⊢
  have hS : va_S A s.heap s.heap [] := va_S.rf
  have hl := lv_entry ([.ref q_this, .ref q_p1]) (n := 4) (Nat.le_of_ble_eq_true rfl)
  rw [lg_entry_eq]
  generalize (lg_sl ([.ref q_this, .ref q_p1]) ++ List.replicate (4 - (lg_sl ([.ref q_this, .ref q_p1])).length) Slot.unset).toArray = ls at hl ⊢
  have hl : lv_has ls 4 [(0, .ref q_this), (1, .ref q_p1)] := hl
  have lk1 := hts (.fieldLink RX7 32 "ReadFromAnywhere$Teller" "place" "I") (List.mem_of_getElem? (i := 1) rfl)
  have inX7 : ∀ w ∈ u_ws RX7 TX7 6, w ∈ wsX7_takeStatement := fun _ h => List.mem_cons_of_mem _ (List.mem_append_left _ (List.mem_append_right _ h))
  have lk2 := hts (.fieldLink RX7 29 "ReadFromAnywhere$Teller" "lead" "I") (List.mem_of_getElem? (i := 2) rfl)
  have lk3 := hts (.fieldLink RX7 22 "ReadFromAnywhere$Teller" "read" "I") (List.mem_of_getElem? (i := 3) rfl)
  have L46 : ∀ (s2 : Nat) (v_this_lead : Int32), ∀ (n46 : Nat) (x3 : Int32) (v_this_read : Int32) (v_this_reader : Int32) (v_this_place : Int32) (f_this_numbers : Nat → Int32), ∀ (H : Heap) (locs : List Loc) (ls : Array Slot), va_P (dC, dI) vwCl (zW_X7_takeStatement cI cC cS q_this q_this_numbers q_p1 q_p1_signs q_this_draft v_this_read v_this_reader v_this_lead v_this_place f_this_numbers v_p1_many f_p1_signs) H → va_D A (zW_X7_takeStatement cI cC cS q_this q_this_numbers q_p1 q_p1_signs q_this_draft v_this_read v_this_reader v_this_lead v_this_place f_this_numbers v_p1_many f_p1_signs) → va_S A s.heap H locs → lv_has ls 4 [(0, .ref q_this), (1, .ref q_p1), (2, .ref (adK s2)), (3, .int x3)] → lp_X7_takeStatement_46 N s2 v_this_lead v_p1_many f_p1_signs Φ n46 x3 v_this_read v_this_reader v_this_place f_this_numbers → W p l e (headSpec wsX7_takeStatement zr_X7_takeStatement).room s m ([.ref q_this, .ref q_p1] : List Value).toArray below meth c H locs 0 0 (MQ below (zQi (dC, dI) (zT cI cC cS) A (fun (r : Int32) (u : (Int32) × (Int32) × (Int32) × (Int32) × (Nat → Int32)) => Φ r u.1 u.2.1 u.2.2.1 u.2.2.2.1 u.2.2.2.2) (fun u => (zW_X7_takeStatement cI cC cS q_this q_this_numbers q_p1 q_p1_signs q_this_draft u.1 u.2.1 u.2.2.1 u.2.2.2.1 u.2.2.2.2 v_p1_many f_p1_signs))) ([.ref q_this, .ref q_p1] : List Value).toArray s 0 0 A) (F0 m 46 ls []) := by
    intro s2 v_this_lead
    intro n46
    induction n46 with
    | zero =>
      intro x3 v_this_read v_this_reader v_this_place f_this_numbers H locs ls hP hD hS hl hf
      exact absurd hf (by rw [lp_X7_takeStatement_46]; exact id)
    | succ n46 ih46 =>
      intro x3 v_this_read v_this_reader v_this_place f_this_numbers H locs ls hP hD hS hl hf
      rw [lp_X7_takeStatement_46] at hf
      refine lv_iload_n hx hb dX7_takeStatement_46 rfl (lv_at hl 3 rfl) ?_
      refine lv_aload_n hx hb dX7_takeStatement_47 rfl (lv_at hl 2 rfl) ?_
      refine zs_Vi (n := 0) (As := []) (rest := [.int x3]) ⟨hx, hb, hml, hown, hts⟩ (c_J0_length_8abf5 l dC dI cI cC cS adK adV fm  _ s2 hf.1  N _  hf.2) gX7_takeStatement_J0_length_8abf5 rfl rfl rfl (by decide +kernel) ⟨Nat.le_of_ble_eq_true rfl, Nat.le_of_ble_eq_true rfl⟩ hK hP hD hS hA hZ (vk_recv hZ.1 hf.1 hS) rfl hl.1 rfl (Nat.le_of_ble_eq_true rfl) dX7_takeStatement_48 ⟨Nat.zero_le _, Nat.zero_le _⟩ [] [0, 1, 2, 3] (([(q_this, .inr (6, [.ref q_this_draft, .ref q_this_numbers, .int v_this_read, .int v_this_reader, .int v_this_lead, .int v_this_place])), (q_this_numbers, .inl (cI, 2, .inl f_this_numbers)), (q_p1, .inr (2, [.ref q_p1_signs, .int v_p1_many])), (q_p1_signs, .inl (cI, 64, .inl f_p1_signs))] : va_W)) rfl rfl (by decide) (by decide) (by decide) (fun u => (zW_X7_takeStatement cI cC cS q_this q_this_numbers q_p1 q_p1_signs q_this_draft v_this_read v_this_reader v_this_lead v_this_place f_this_numbers v_p1_many f_p1_signs)) [0, 1, 2, 3] (fun u => rfl) (by decide) (fun r1 u1 H locs hf hP hD hS => ?_)
      have hP : va_P (dC, dI) vwCl (zW_X7_takeStatement cI cC cS q_this q_this_numbers q_p1 q_p1_signs q_this_draft v_this_read v_this_reader v_this_lead v_this_place f_this_numbers v_p1_many f_p1_signs) H := hP
      have hD : va_D A (zW_X7_takeStatement cI cC cS q_this q_this_numbers q_p1 q_p1_signs q_this_draft v_this_read v_this_reader v_this_lead v_this_place f_this_numbers v_p1_many f_p1_signs) := hD
      refine lv_icmp_ge (tgt := 75) hx hb dX7_takeStatement_51 (by decide) (fun c2 => ?_) (fun c2 => ?_)
      · replace hf := hf.1 c2
        refine lv_iconst (v := 1) hx hb dX7_takeStatement_75 (by decide) ?_
        exact z_zret hx hb hr rfl hlocks (v_this_read, v_this_reader, v_this_lead, v_this_place, f_this_numbers) hf hK hP hD hS dX7_takeStatement_76
      · replace hf := hf.2 c2
        refine lv_aload_n hx hb dX7_takeStatement_54 rfl (lv_at hl 0 rfl) ?_
        refine lv_aload_n hx hb dX7_takeStatement_55 rfl (lv_at hl 1 rfl) ?_
        refine lv_aload_n hx hb dX7_takeStatement_56 rfl (lv_at hl 2 rfl) ?_
        refine lv_iload_n hx hb dX7_takeStatement_57 rfl (lv_at hl 3 rfl) ?_
        refine zs_Vi (n := 1) (As := [.int x3]) (rest := [.ref q_p1, .ref q_this]) ⟨hx, hb, hml, hown, hts⟩ (c_J0_charAt_5068e l dC dI cI cC cS adK adV fm  _ s2 hf.1 x3 N _  hf.2) gX7_takeStatement_J0_charAt_5068e rfl rfl rfl (by decide +kernel) ⟨Nat.le_of_ble_eq_true rfl, Nat.le_of_ble_eq_true rfl⟩ hK hP hD hS hA hZ (vk_recv hZ.1 hf.1 hS) rfl hl.1 rfl (Nat.le_of_ble_eq_true rfl) dX7_takeStatement_58 ⟨Nat.zero_le _, Nat.zero_le _⟩ [] [0, 1, 2, 3] (([(q_this, .inr (6, [.ref q_this_draft, .ref q_this_numbers, .int v_this_read, .int v_this_reader, .int v_this_lead, .int v_this_place])), (q_this_numbers, .inl (cI, 2, .inl f_this_numbers)), (q_p1, .inr (2, [.ref q_p1_signs, .int v_p1_many])), (q_p1_signs, .inl (cI, 64, .inl f_p1_signs))] : va_W)) rfl rfl (by decide) (by decide) (by decide) (fun u => (zW_X7_takeStatement cI cC cS q_this q_this_numbers q_p1 q_p1_signs q_this_draft v_this_read v_this_reader v_this_lead v_this_place f_this_numbers v_p1_many f_p1_signs)) [0, 1, 2, 3] (fun u => rfl) (by decide) (fun r3 u3 H locs hf hP hD hS => ?_)
        have hP : va_P (dC, dI) vwCl (zW_X7_takeStatement cI cC cS q_this q_this_numbers q_p1 q_p1_signs q_this_draft v_this_read v_this_reader v_this_lead v_this_place f_this_numbers v_p1_many f_p1_signs) H := hP
        have hD : va_D A (zW_X7_takeStatement cI cC cS q_this q_this_numbers q_p1 q_p1_signs q_this_draft v_this_read v_this_reader v_this_lead v_this_place f_this_numbers v_p1_many f_p1_signs) := hD
        refine zs_Vi (n := 2) (As := [.ref q_p1, .int r3]) (rest := []) ⟨hx, hb, hml, hown, hts⟩ (c_X7_takePart l dC dI cI cC cS adK adV fm q_this q_this_numbers q_p1 q_p1_signs q_this_draft _ v_this_read v_this_reader v_this_lead v_this_place f_this_numbers v_p1_many f_p1_signs r3 N _  hf) gX7_takeStatement_X7_takePart rfl rfl rfl (by decide +kernel) ⟨Nat.le_of_ble_eq_true rfl, Nat.le_of_ble_eq_true rfl⟩ hK hP hD hS hA hZ (va_recv hK hP (ci := 6) (q0 := 0) rfl rfl) rfl hl.1 rfl (Nat.le_of_ble_eq_true rfl) dX7_takeStatement_61 ⟨Nat.zero_le _, Nat.zero_le _⟩ [0, 1, 2, 3] [] (([] : va_W)) rfl rfl (by decide) (by decide) (by decide) (fun u => (zW_X7_takeStatement cI cC cS q_this q_this_numbers q_p1 q_p1_signs q_this_draft u.1 u.2.1 v_this_lead u.2.2.1 u.2.2.2 v_p1_many f_p1_signs)) [0, 1, 2, 3] (fun u => rfl) (by decide) (fun r4 u4 H locs hf hP hD hS => ?_)
        have hP : va_P (dC, dI) vwCl (zW_X7_takeStatement cI cC cS q_this q_this_numbers q_p1 q_p1_signs q_this_draft u4.1 u4.2.1 v_this_lead u4.2.2.1 u4.2.2.2 v_p1_many f_p1_signs) H := hP
        have hD : va_D A (zW_X7_takeStatement cI cC cS q_this q_this_numbers q_p1 q_p1_signs q_this_draft u4.1 u4.2.1 v_this_lead u4.2.2.1 u4.2.2.2 v_p1_many f_p1_signs) := hD
        refine lv_if_ne (tgt := 69) hx hb dX7_takeStatement_64 (by decide) (fun c5 => ?_) (fun c5 => ?_)
        · replace hf := hf.2 c5
          refine lv_iinc (v := (x3 + 1)) (lv' := [(3, .int (x3 + 1)), (0, .ref q_this), (1, .ref q_p1), (2, .ref (adK s2))]) hx hb dX7_takeStatement_69 hl (k := 3) rfl (by rfl) (by decide) rfl (fun ls hl => ?_)
          refine lv_goto (tgt := 46) hx hb dX7_takeStatement_72 (by decide) ?_
          exact ih46 (x3 + 1) u4.1 u4.2.1 u4.2.2.1 u4.2.2.2 _ _ _ hP hD hS (lv_sub hl [1, 2, 3, 0] rfl) hf
        · replace hf := hf.1 c5
          refine lv_iconst (v := 0) hx hb dX7_takeStatement_67 (by decide) ?_
          exact z_zret hx hb hr rfl hlocks (u4.1, u4.2.1, v_this_lead, u4.2.2.1, u4.2.2.2) hf hK hP hD hS dX7_takeStatement_68
  unfold wp_X7_takeStatement at hf
  refine lv_aload_n hx hb dX7_takeStatement_0 rfl (lv_at hl 0 rfl) ?_
  refine lv_aload_n hx hb dX7_takeStatement_1 rfl (lv_at hl 1 rfl) ?_
  refine lv_aload_n hx hb dX7_takeStatement_2 rfl (lv_at hl 0 rfl) ?_
  refine va_get (D := (dC, dI)) (ci := 6) (v := .int v_this_place) (C := RX7) (T := TX7) (N := 6) hx hb hts inX7 hown hK hP 0 rfl rfl 5 (by decide) lk1 (fun _ h9 => h9) rfl dX7_takeStatement_3 ?_
  refine z_Vi (n := 1) (As := [.int v_this_place]) (rest := [.ref q_this]) ⟨hx, hb, hml, hown, hts⟩ (c_X2_signAt l dC dI cI cC cS q_p1 q_p1_signs _ v_p1_many f_p1_signs v_this_place N _  hf) gX7_takeStatement_X2_signAt rfl rfl rfl (by decide +kernel) ⟨Nat.le_of_ble_eq_true rfl, Nat.le_of_ble_eq_true rfl⟩ hK hP hD hS hA 2 2 rfl rfl rfl hl.1 rfl (Nat.le_of_ble_eq_true rfl) dX7_takeStatement_6 ⟨Nat.zero_le _, Nat.zero_le _⟩ [2, 3] [0, 1] (([(q_this, .inr (6, [.ref q_this_draft, .ref q_this_numbers, .int v_this_read, .int v_this_reader, .int v_this_lead, .int v_this_place])), (q_this_numbers, .inl (cI, 2, .inl f_this_numbers))] : va_W)) rfl rfl (by decide) (by decide) (by decide) (fun u => (zW_X7_takeStatement cI cC cS q_this q_this_numbers q_p1 q_p1_signs q_this_draft v_this_read v_this_reader v_this_lead v_this_place f_this_numbers v_p1_many f_p1_signs)) [0, 1, 2, 3] (fun u => rfl) (by decide) (fun r1 u1 H locs hf hP hD hS => ?_)
  have hP : va_P (dC, dI) vwCl (zW_X7_takeStatement cI cC cS q_this q_this_numbers q_p1 q_p1_signs q_this_draft v_this_read v_this_reader v_this_lead v_this_place f_this_numbers v_p1_many f_p1_signs) H := hP
  have hD : va_D A (zW_X7_takeStatement cI cC cS q_this q_this_numbers q_p1 q_p1_signs q_this_draft v_this_read v_this_reader v_this_lead v_this_place f_this_numbers v_p1_many f_p1_signs) := hD
  refine va_put (D := (dC, dI)) (ci := 6) (v := .int r1) (ty := .int) (C := RX7) (T := TX7) (N := 6) hx hb hts inX7 tyX7 tyX7_ok nmX7 hown hK hP hD hS 0 rfl rfl 4 (by decide) lk2 (fun _ h9 => h9) rfl (by decide +kernel) rfl rfl (Nat.le_of_ble_eq_true rfl) dX7_takeStatement_9 (fun H locs hP hD hS => ?_)
  have hP : va_P (dC, dI) vwCl (zW_X7_takeStatement cI cC cS q_this q_this_numbers q_p1 q_p1_signs q_this_draft v_this_read v_this_reader r1 v_this_place f_this_numbers v_p1_many f_p1_signs) H := hP
  have hD : va_D A (zW_X7_takeStatement cI cC cS q_this q_this_numbers q_p1 q_p1_signs q_this_draft v_this_read v_this_reader r1 v_this_place f_this_numbers v_p1_many f_p1_signs) := hD
  refine lv_aload_n hx hb dX7_takeStatement_12 rfl (lv_at hl 0 rfl) ?_
  refine lv_iconst (v := 0) hx hb dX7_takeStatement_13 (by decide) ?_
  refine va_put (D := (dC, dI)) (ci := 6) (v := .int 0) (ty := .int) (C := RX7) (T := TX7) (N := 6) hx hb hts inX7 tyX7 tyX7_ok nmX7 hown hK hP hD hS 0 rfl rfl 2 (by decide) lk3 (fun _ h9 => h9) rfl (by decide +kernel) rfl rfl (Nat.le_of_ble_eq_true rfl) dX7_takeStatement_14 (fun H locs hP hD hS => ?_)
  have hP : va_P (dC, dI) vwCl (zW_X7_takeStatement cI cC cS q_this q_this_numbers q_p1 q_p1_signs q_this_draft 0 v_this_reader r1 v_this_place f_this_numbers v_p1_many f_p1_signs) H := hP
  have hD : va_D A (zW_X7_takeStatement cI cC cS q_this q_this_numbers q_p1 q_p1_signs q_this_draft 0 v_this_reader r1 v_this_place f_this_numbers v_p1_many f_p1_signs) := hD
  refine lv_aload_n hx hb dX7_takeStatement_17 rfl (lv_at hl 0 rfl) ?_
  refine va_get (D := (dC, dI)) (ci := 6) (v := .int r1) (C := RX7) (T := TX7) (N := 6) hx hb hts inX7 hown hK hP 0 rfl rfl 4 (by decide) lk2 (fun _ h9 => h9) rfl dX7_takeStatement_18 ?_
  refine zs_Sr (n := 1) (As := [.int r1]) (rest := []) ⟨hx, hb, hml, hown, hts⟩ (c_X7_formBehind l dC dI cI cC cS adK adV fm  _  r1 N _  hf) gX7_takeStatement_X7_formBehind rfl rfl rfl (by decide +kernel) ⟨Nat.le_of_ble_eq_true rfl, Nat.le_of_ble_eq_true rfl⟩ hK hP hD hS hA hZ rfl hl.1 rfl (Nat.le_of_ble_eq_true rfl) dX7_takeStatement_21 ⟨Nat.zero_le _, Nat.zero_le _⟩ (fun r2 H locs hr2 hf hP hD hS => ?_)
  refine lv_astore_n (lv' := [(2, .ref (adK r2)), (0, .ref q_this), (1, .ref q_p1)]) hx hb dX7_takeStatement_24 rfl hl (by decide) rfl (fun ls hl => ?_)
  refine lv_aload_n hx hb dX7_takeStatement_25 rfl (lv_at hl 0 rfl) ?_
  refine zs_Vi (n := 0) (As := []) (rest := []) ⟨hx, hb, hml, hown, hts⟩ (c_J0_isEmpty_aae02 l dC dI cI cC cS adK adV fm  _ r2 hf.1  N _  hf.2) gX7_takeStatement_J0_isEmpty_aae02 rfl rfl rfl (by decide +kernel) ⟨Nat.le_of_ble_eq_true rfl, Nat.le_of_ble_eq_true rfl⟩ hK hP hD hS hA hZ (vk_recv hZ.1 hf.1 hS) rfl hl.1 rfl (Nat.le_of_ble_eq_true rfl) dX7_takeStatement_26 ⟨Nat.zero_le _, Nat.zero_le _⟩ [] [0, 1, 2, 3] (([(q_this, .inr (6, [.ref q_this_draft, .ref q_this_numbers, .int 0, .int v_this_reader, .int r1, .int v_this_place])), (q_this_numbers, .inl (cI, 2, .inl f_this_numbers)), (q_p1, .inr (2, [.ref q_p1_signs, .int v_p1_many])), (q_p1_signs, .inl (cI, 64, .inl f_p1_signs))] : va_W)) rfl rfl (by decide) (by decide) (by decide) (fun u => (zW_X7_takeStatement cI cC cS q_this q_this_numbers q_p1 q_p1_signs q_this_draft 0 v_this_reader r1 v_this_place f_this_numbers v_p1_many f_p1_signs)) [0, 1, 2, 3] (fun u => rfl) (by decide) (fun r3 u3 H locs hf hP hD hS => ?_)
  have hP : va_P (dC, dI) vwCl (zW_X7_takeStatement cI cC cS q_this q_this_numbers q_p1 q_p1_signs q_this_draft 0 v_this_reader r1 v_this_place f_this_numbers v_p1_many f_p1_signs) H := hP
  have hD : va_D A (zW_X7_takeStatement cI cC cS q_this q_this_numbers q_p1 q_p1_signs q_this_draft 0 v_this_reader r1 v_this_place f_this_numbers v_p1_many f_p1_signs) := hD
  refine lv_if_eq (tgt := 34) hx hb dX7_takeStatement_29 (by decide) (fun c4 => ?_) (fun c4 => ?_)
  · replace hf := hf.1 c4
    refine lv_aload_n hx hb dX7_takeStatement_34 rfl (lv_at hl 1 rfl) ?_
    refine lv_dup hx hb dX7_takeStatement_35 rfl ?_
    refine va_get (D := (dC, dI)) (ci := 6) (v := .int v_this_place) (C := RX7) (T := TX7) (N := 6) hx hb hts inX7 hown hK hP 0 rfl rfl 5 (by decide) lk1 (fun _ h9 => h9) rfl dX7_takeStatement_36 ?_
    refine lv_iconst (v := 1) hx hb dX7_takeStatement_39 (by decide) ?_
    refine lv_iadd hx hb dX7_takeStatement_40 ?_
    refine va_put (D := (dC, dI)) (ci := 6) (v := .int (v_this_place + 1)) (ty := .int) (C := RX7) (T := TX7) (N := 6) hx hb hts inX7 tyX7 tyX7_ok nmX7 hown hK hP hD hS 0 rfl rfl 5 (by decide) lk1 (fun _ h9 => h9) rfl (by decide +kernel) rfl rfl (Nat.le_of_ble_eq_true rfl) dX7_takeStatement_41 (fun H locs hP hD hS => ?_)
    have hP : va_P (dC, dI) vwCl (zW_X7_takeStatement cI cC cS q_this q_this_numbers q_p1 q_p1_signs q_this_draft 0 v_this_reader r1 (v_this_place + 1) f_this_numbers v_p1_many f_p1_signs) H := hP
    have hD : va_D A (zW_X7_takeStatement cI cC cS q_this q_this_numbers q_p1 q_p1_signs q_this_draft 0 v_this_reader r1 (v_this_place + 1) f_this_numbers v_p1_many f_p1_signs) := hD
    refine lv_iconst (v := 0) hx hb dX7_takeStatement_44 (by decide) ?_
    refine lv_istore_n (lv' := [(3, .int 0), (2, .ref (adK r2)), (0, .ref q_this), (1, .ref q_p1)]) hx hb dX7_takeStatement_45 rfl hl (by decide) rfl (fun ls hl => ?_)
    exact L46 r2 r1 N 0 0 v_this_reader (v_this_place + 1) f_this_numbers _ _ _ hP hD hS (lv_sub hl [2, 3, 1, 0] rfl) hf
  · replace hf := hf.2 c4
    refine lv_iconst (v := 0) hx hb dX7_takeStatement_32 (by decide) ?_
    exact z_zret hx hb hr rfl hlocks (0, v_this_reader, r1, v_this_place, f_this_numbers) hf hK hP hD hS dX7_takeStatement_33
def lp_X7_hasForm_13 (N : Nat) (v_p1_many : Int32) (f_p1_signs : Nat → Int32) (Φ : Int32 → Int32 → Int32 → Int32 → Int32 → (Nat → Int32) → Prop) : Nat → Int32 → Int32 → Int32 → Int32 → Int32 → Int32 → (Nat → Int32) → Prop
  | 0, _, _, _, _, _, _, _ => False
  | n + 1, x2, x3, v_this_read, v_this_reader, v_this_lead, v_this_place, f_this_numbers => 
    ((64 ≤ x3 → ((x2 = 0 ∨ x2 = 1) ∧ Φ x2 v_this_read v_this_reader v_this_lead v_this_place f_this_numbers)) ∧
     (¬ (64 ≤ x3) → ((x2 = 0 → ((x2 = 0 ∨ x2 = 1) ∧ Φ x2 v_this_read v_this_reader v_this_lead v_this_place f_this_numbers)) ∧
     (¬ (x2 = 0) → ((v_p1_many ≤ v_this_place → ((x2 = 0 ∨ x2 = 1) ∧ Φ x2 v_this_read v_this_reader v_this_lead v_this_place f_this_numbers)) ∧
     (¬ (v_p1_many ≤ v_this_place) → wp_X7_takeStatement N v_this_read v_this_reader v_this_lead v_this_place f_this_numbers v_p1_many f_p1_signs (fun r4 o4_0 o4_1 o4_2 o4_3 o4_4 => 
     (lp_X7_hasForm_13 N v_p1_many f_p1_signs Φ n) r4 (x3 + 1) o4_0 o4_1 o4_2 o4_3 o4_4)))))))
def wp_X7_hasForm (N : Nat) (v_this_read : Int32) (v_this_reader : Int32) (v_this_lead : Int32) (v_this_place : Int32) (f_this_numbers : Nat → Int32) (v_p1_many : Int32) (f_p1_signs : Nat → Int32) (Φ : Int32 → Int32 → Int32 → Int32 → Int32 → (Nat → Int32) → Prop) : Prop := 
    wp_X7_takeStatement N v_this_read v_this_reader v_this_lead 0 f_this_numbers v_p1_many f_p1_signs (fun r1 o1_0 o1_1 o1_2 o1_3 o1_4 => 
     lp_X7_hasForm_13 N v_p1_many f_p1_signs Φ N r1 0 o1_0 o1_1 o1_2 o1_3 o1_4)
abbrev zW_X7_hasForm (cI cC cS : ClassId) (q_this : Nat) (q_this_numbers : Nat) (q_p1 : Nat) (q_p1_signs : Nat) (q_this_draft : Nat) (v_this_read : Int32) (v_this_reader : Int32) (v_this_lead : Int32) (v_this_place : Int32) (f_this_numbers : Nat → Int32) (v_p1_many : Int32) (f_p1_signs : Nat → Int32) : va_W := [(q_this, .inr (6, [.ref q_this_draft, .ref q_this_numbers, .int v_this_read, .int v_this_reader, .int v_this_lead, .int v_this_place])),
  (q_this_numbers, .inl (cI, 2, .inl f_this_numbers)),
  (q_p1, .inr (2, [.ref q_p1_signs, .int v_p1_many])),
  (q_p1_signs, .inl (cI, 64, .inl f_p1_signs))]
abbrev zr_X7_hasForm : Room := { frames := 6, cells := 0, slots := 0, locals := 142 }
set_option maxHeartbeats 4000000 in
set_option maxRecDepth 100000 in
theorem c_X7_hasForm (l : Launch) (dC : Nat → ClassId) (dI : Nat → Nat → Nat) (cI cC cS : ClassId) (adK adV : Nat → Nat) (fm : Value) (q_this : Nat) (q_this_numbers : Nat) (q_p1 : Nat) (q_p1_signs : Nat) (q_this_draft : Nat) (sz : Nat) (v_this_read : Int32) (v_this_reader : Int32) (v_this_lead : Int32) (v_this_place : Int32) (f_this_numbers : Nat → Int32) (v_p1_many : Int32) (f_p1_signs : Nat → Int32) (N : Nat) (Φ : Int32 → Int32 → Int32 → Int32 → Int32 → (Nat → Int32) → Prop)  (hf : wp_X7_hasForm N v_this_read v_this_reader v_this_lead v_this_place f_this_numbers v_p1_many f_p1_signs Φ) : Met l yX7_hasForm wsX7_hasForm zr_X7_hasForm (zPcS (dC, dI) (zT cI cC cS) adK adV fm [.ref q_this, .ref q_p1] sz (zW_X7_hasForm cI cC cS q_this q_this_numbers q_p1 q_p1_signs q_this_draft v_this_read v_this_reader v_this_lead v_this_place f_this_numbers v_p1_many f_p1_signs)) (zQi (dC, dI) (zT cI cC cS) (va_A (zW_X7_hasForm cI cC cS q_this q_this_numbers q_p1 q_p1_signs q_this_draft v_this_read v_this_reader v_this_lead v_this_place f_this_numbers v_p1_many f_p1_signs) sz) (fun (r : Int32) (u : (Int32) × (Int32) × (Int32) × (Int32) × (Nat → Int32)) => Φ r u.1 u.2.1 u.2.2.1 u.2.2.2.1 u.2.2.2.2) (fun u => (zW_X7_hasForm cI cC cS q_this q_this_numbers q_p1 q_p1_signs q_this_draft u.1 u.2.1 u.2.2.1 u.2.2.2.1 u.2.2.2.2 v_p1_many f_p1_signs))) 0 0 (va_A (zW_X7_hasForm cI cC cS q_this q_this_numbers q_p1 q_p1_signs q_this_draft v_this_read v_this_reader v_this_lead v_this_place f_this_numbers v_p1_many f_p1_signs) sz) := by
  refine Met.ofW (cc := cX7_hasForm) (maxL := 4) (ret := (some .boolean)) (by decide) rfl ?_
  intro p e s m args below meth c s₁ B hml hv
  obtain ⟨rfl, hsz, hP, hK, hD0, hZ⟩ := hv
  have hx := B.exec
  have hb := B.bytes
  have hr := B.returns
  have hts := atoms_spec (ws := wsX7_hasForm) B.pre
  have hown : s.vm.findClass RX7 = some m.cls := findClass_of_methodNamed B.named
  have hlocks := B.notSynchronized
  subst hsz
  have hD := hD0.self (sz := s.heap.size)
  have hA : ∀ q : Nat, s.heap.size ≤ q → va_A (zW_X7_hasForm cI cC cS q_this q_this_numbers q_p1 q_p1_signs q_this_draft v_this_read v_this_reader v_this_lead v_this_place f_this_numbers v_p1_many f_p1_signs) s.heap.size q := fun q h => Or.inr h
  generalize va_A (zW_X7_hasForm cI cC cS q_this q_this_numbers q_p1 q_p1_signs q_this_draft v_this_read v_this_reader v_this_lead v_this_place f_this_numbers v_p1_many f_p1_signs) s.heap.size = A at hD hA hZ ⊢
  have hS : va_S A s.heap s.heap [] := va_S.rf
  have hl := lv_entry ([.ref q_this, .ref q_p1]) (n := 4) (Nat.le_of_ble_eq_true rfl)
  rw [lg_entry_eq]
  generalize (lg_sl ([.ref q_this, .ref q_p1]) ++ List.replicate (4 - (lg_sl ([.ref q_this, .ref q_p1])).length) Slot.unset).toArray = ls at hl ⊢
  have hl : lv_has ls 4 [(0, .ref q_this), (1, .ref q_p1)] := hl
  have lk1 := hts (.fieldLink RX7 32 "ReadFromAnywhere$Teller" "place" "I") (List.mem_of_getElem? (i := 1) rfl)
  have inX7 : ∀ w ∈ u_ws RX7 TX7 6, w ∈ wsX7_hasForm := fun _ h => List.mem_cons_of_mem _ (List.mem_append_left _ (List.mem_append_right _ h))
  have lk2 := hts (.fieldLink RX7 43 "ReadFromAnywhere$Letters" "many" "I") (List.mem_of_getElem? (i := 2) rfl)
  have inX2 : ∀ w ∈ u_ws RX2 TX2 2, w ∈ wsX7_hasForm := fun _ h => List.mem_cons_of_mem _ (List.mem_append_right _ h)
  have L13 : ∀ (n13 : Nat) (x2 : Int32) (x3 : Int32) (v_this_read : Int32) (v_this_reader : Int32) (v_this_lead : Int32) (v_this_place : Int32) (f_this_numbers : Nat → Int32), ∀ (H : Heap) (locs : List Loc) (ls : Array Slot), va_P (dC, dI) vwCl (zW_X7_hasForm cI cC cS q_this q_this_numbers q_p1 q_p1_signs q_this_draft v_this_read v_this_reader v_this_lead v_this_place f_this_numbers v_p1_many f_p1_signs) H → va_D A (zW_X7_hasForm cI cC cS q_this q_this_numbers q_p1 q_p1_signs q_this_draft v_this_read v_this_reader v_this_lead v_this_place f_this_numbers v_p1_many f_p1_signs) → va_S A s.heap H locs → lv_has ls 4 [(0, .ref q_this), (1, .ref q_p1), (2, .int x2), (3, .int x3)] → lp_X7_hasForm_13 N v_p1_many f_p1_signs Φ n13 x2 x3 v_this_read v_this_reader v_this_lead v_this_place f_this_numbers → W p l e (headSpec wsX7_hasForm zr_X7_hasForm).room s m ([.ref q_this, .ref q_p1] : List Value).toArray below meth c H locs 0 0 (MQ below (zQi (dC, dI) (zT cI cC cS) A (fun (r : Int32) (u : (Int32) × (Int32) × (Int32) × (Int32) × (Nat → Int32)) => Φ r u.1 u.2.1 u.2.2.1 u.2.2.2.1 u.2.2.2.2) (fun u => (zW_X7_hasForm cI cC cS q_this q_this_numbers q_p1 q_p1_signs q_this_draft u.1 u.2.1 u.2.2.1 u.2.2.2.1 u.2.2.2.2 v_p1_many f_p1_signs))) ([.ref q_this, .ref q_p1] : List Value).toArray s 0 0 A) (F0 m 13 ls []) := by
    intro n13
    induction n13 with
    | zero =>
      intro x2 x3 v_this_read v_this_reader v_this_lead v_this_place f_this_numbers H locs ls hP hD hS hl hf
      exact absurd hf (by rw [lp_X7_hasForm_13]; exact id)
    | succ n13 ih13 =>
      intro x2 x3 v_this_read v_this_reader v_this_lead v_this_place f_this_numbers H locs ls hP hD hS hl hf
      rw [lp_X7_hasForm_13] at hf
      refine lv_iload_n hx hb dX7_hasForm_13 rfl (lv_at hl 3 rfl) ?_
      refine lv_bipush (v := 64) hx hb dX7_hasForm_14 (by decide) ?_
      refine lv_icmp_ge (tgt := 46) hx hb dX7_hasForm_16 (by decide) (fun c1 => ?_) (fun c1 => ?_)
      · replace hf := hf.1 c1
        refine lv_iload_n hx hb dX7_hasForm_46 rfl (lv_at hl 2 rfl) ?_
        exact z_zret hx hb hr (z_nz hf.1) hlocks (v_this_read, v_this_reader, v_this_lead, v_this_place, f_this_numbers) hf.2 hK hP hD hS dX7_hasForm_47
      · replace hf := hf.2 c1
        refine lv_iload_n hx hb dX7_hasForm_19 rfl (lv_at hl 2 rfl) ?_
        refine lv_if_eq (tgt := 46) hx hb dX7_hasForm_20 (by decide) (fun c2 => ?_) (fun c2 => ?_)
        · replace hf := hf.1 c2
          refine lv_iload_n hx hb dX7_hasForm_46 rfl (lv_at hl 2 rfl) ?_
          exact z_zret hx hb hr (z_nz hf.1) hlocks (v_this_read, v_this_reader, v_this_lead, v_this_place, f_this_numbers) hf.2 hK hP hD hS dX7_hasForm_47
        · replace hf := hf.2 c2
          refine lv_aload_n hx hb dX7_hasForm_23 rfl (lv_at hl 0 rfl) ?_
          refine va_get (D := (dC, dI)) (ci := 6) (v := .int v_this_place) (C := RX7) (T := TX7) (N := 6) hx hb hts inX7 hown hK hP 0 rfl rfl 5 (by decide) lk1 (fun _ h9 => h9) rfl dX7_hasForm_24 ?_
          refine lv_aload_n hx hb dX7_hasForm_27 rfl (lv_at hl 1 rfl) ?_
          refine va_get (D := (dC, dI)) (ci := 2) (v := .int v_p1_many) (C := RX2) (T := TX2) (N := 2) hx hb hts inX2 hown hK hP 2 rfl rfl 1 (by decide) lk2 (fun _ h9 => h9) rfl dX7_hasForm_28 ?_
          refine lv_icmp_ge (tgt := 46) hx hb dX7_hasForm_31 (by decide) (fun c3 => ?_) (fun c3 => ?_)
          · replace hf := hf.1 c3
            refine lv_iload_n hx hb dX7_hasForm_46 rfl (lv_at hl 2 rfl) ?_
            exact z_zret hx hb hr (z_nz hf.1) hlocks (v_this_read, v_this_reader, v_this_lead, v_this_place, f_this_numbers) hf.2 hK hP hD hS dX7_hasForm_47
          · replace hf := hf.2 c3
            refine lv_aload_n hx hb dX7_hasForm_34 rfl (lv_at hl 0 rfl) ?_
            refine lv_aload_n hx hb dX7_hasForm_35 rfl (lv_at hl 1 rfl) ?_
            refine zs_Vi (n := 1) (As := [.ref q_p1]) (rest := []) ⟨hx, hb, hml, hown, hts⟩ (c_X7_takeStatement l dC dI cI cC cS adK adV fm q_this q_this_numbers q_p1 q_p1_signs q_this_draft _ v_this_read v_this_reader v_this_lead v_this_place f_this_numbers v_p1_many f_p1_signs  N _  hf) gX7_hasForm_X7_takeStatement rfl rfl rfl (by decide +kernel) ⟨Nat.le_of_ble_eq_true rfl, Nat.le_of_ble_eq_true rfl⟩ hK hP hD hS hA hZ (va_recv hK hP (ci := 6) (q0 := 0) rfl rfl) rfl hl.1 rfl (Nat.le_of_ble_eq_true rfl) dX7_hasForm_36 ⟨Nat.zero_le _, Nat.zero_le _⟩ [0, 1, 2, 3] [] (([] : va_W)) rfl rfl (by decide) (by decide) (by decide) (fun u => (zW_X7_hasForm cI cC cS q_this q_this_numbers q_p1 q_p1_signs q_this_draft u.1 u.2.1 u.2.2.1 u.2.2.2.1 u.2.2.2.2 v_p1_many f_p1_signs)) [0, 1, 2, 3] (fun u => rfl) (by decide) (fun r4 u4 H locs hf hP hD hS => ?_)
            have hP : va_P (dC, dI) vwCl (zW_X7_hasForm cI cC cS q_this q_this_numbers q_p1 q_p1_signs q_this_draft u4.1 u4.2.1 u4.2.2.1 u4.2.2.2.1 u4.2.2.2.2 v_p1_many f_p1_signs) H := hP
            have hD : va_D A (zW_X7_hasForm cI cC cS q_this q_this_numbers q_p1 q_p1_signs q_this_draft u4.1 u4.2.1 u4.2.2.1 u4.2.2.2.1 u4.2.2.2.2 v_p1_many f_p1_signs) := hD
            refine lv_istore_n (lv' := [(2, .int r4), (0, .ref q_this), (1, .ref q_p1), (3, .int x3)]) hx hb dX7_hasForm_39 rfl hl (by decide) rfl (fun ls hl => ?_)
            refine lv_iinc (v := (x3 + 1)) (lv' := [(3, .int (x3 + 1)), (2, .int r4), (0, .ref q_this), (1, .ref q_p1)]) hx hb dX7_hasForm_40 hl (k := 3) rfl (by rfl) (by decide) rfl (fun ls hl => ?_)
            refine lv_goto (tgt := 13) hx hb dX7_hasForm_43 (by decide) ?_
            exact ih13 r4 (x3 + 1) u4.1 u4.2.1 u4.2.2.1 u4.2.2.2.1 u4.2.2.2.2 _ _ _ hP hD hS (lv_sub hl [2, 3, 1, 0] rfl) hf
  unfold wp_X7_hasForm at hf
  refine lv_aload_n hx hb dX7_hasForm_0 rfl (lv_at hl 0 rfl) ?_
  refine lv_iconst (v := 0) hx hb dX7_hasForm_1 (by decide) ?_
  refine va_put (D := (dC, dI)) (ci := 6) (v := .int 0) (ty := .int) (C := RX7) (T := TX7) (N := 6) hx hb hts inX7 tyX7 tyX7_ok nmX7 hown hK hP hD hS 0 rfl rfl 5 (by decide) lk1 (fun _ h9 => h9) rfl (by decide +kernel) rfl rfl (Nat.le_of_ble_eq_true rfl) dX7_hasForm_2 (fun H locs hP hD hS => ?_)
  have hP : va_P (dC, dI) vwCl (zW_X7_hasForm cI cC cS q_this q_this_numbers q_p1 q_p1_signs q_this_draft v_this_read v_this_reader v_this_lead 0 f_this_numbers v_p1_many f_p1_signs) H := hP
  have hD : va_D A (zW_X7_hasForm cI cC cS q_this q_this_numbers q_p1 q_p1_signs q_this_draft v_this_read v_this_reader v_this_lead 0 f_this_numbers v_p1_many f_p1_signs) := hD
  refine lv_aload_n hx hb dX7_hasForm_5 rfl (lv_at hl 0 rfl) ?_
  refine lv_aload_n hx hb dX7_hasForm_6 rfl (lv_at hl 1 rfl) ?_
  refine zs_Vi (n := 1) (As := [.ref q_p1]) (rest := []) ⟨hx, hb, hml, hown, hts⟩ (c_X7_takeStatement l dC dI cI cC cS adK adV fm q_this q_this_numbers q_p1 q_p1_signs q_this_draft _ v_this_read v_this_reader v_this_lead 0 f_this_numbers v_p1_many f_p1_signs  N _  hf) gX7_hasForm_X7_takeStatement rfl rfl rfl (by decide +kernel) ⟨Nat.le_of_ble_eq_true rfl, Nat.le_of_ble_eq_true rfl⟩ hK hP hD hS hA hZ (va_recv hK hP (ci := 6) (q0 := 0) rfl rfl) rfl hl.1 rfl (Nat.le_of_ble_eq_true rfl) dX7_hasForm_7 ⟨Nat.zero_le _, Nat.zero_le _⟩ [0, 1, 2, 3] [] (([] : va_W)) rfl rfl (by decide) (by decide) (by decide) (fun u => (zW_X7_hasForm cI cC cS q_this q_this_numbers q_p1 q_p1_signs q_this_draft u.1 u.2.1 u.2.2.1 u.2.2.2.1 u.2.2.2.2 v_p1_many f_p1_signs)) [0, 1, 2, 3] (fun u => rfl) (by decide) (fun r1 u1 H locs hf hP hD hS => ?_)
  have hP : va_P (dC, dI) vwCl (zW_X7_hasForm cI cC cS q_this q_this_numbers q_p1 q_p1_signs q_this_draft u1.1 u1.2.1 u1.2.2.1 u1.2.2.2.1 u1.2.2.2.2 v_p1_many f_p1_signs) H := hP
  have hD : va_D A (zW_X7_hasForm cI cC cS q_this q_this_numbers q_p1 q_p1_signs q_this_draft u1.1 u1.2.1 u1.2.2.1 u1.2.2.2.1 u1.2.2.2.2 v_p1_many f_p1_signs) := hD
  refine lv_istore_n (lv' := [(2, .int r1), (0, .ref q_this), (1, .ref q_p1)]) hx hb dX7_hasForm_10 rfl hl (by decide) rfl (fun ls hl => ?_)
  refine lv_iconst (v := 0) hx hb dX7_hasForm_11 (by decide) ?_
  refine lv_istore_n (lv' := [(3, .int 0), (2, .int r1), (0, .ref q_this), (1, .ref q_p1)]) hx hb dX7_hasForm_12 rfl hl (by decide) rfl (fun ls hl => ?_)
  exact L13  N r1 0 u1.1 u1.2.1 u1.2.2.1 u1.2.2.2.1 u1.2.2.2.2 _ _ _ hP hD hS (lv_sub hl [2, 3, 1, 0] rfl) hf
def wp_X7_addStatement (N : Nat) (v_this_reader : Int32) (v_this_lead : Int32) (v_this_draft_words : Int32) (v_this_draft_roads : Int32) (f_this_draft_kinds : Nat → Int32) (f_this_draft_sets : Nat → Int32) (f_this_draft_weights : Nat → Int32) (f_this_draft_stocks : Nat → Int32) (f_this_draft_readers : Nat → Int32) (f_this_draft_eighths : Nat → Int32) (f_this_draft_wishes : Nat → Int32) (f_this_numbers : Nat → Int32) (Φ : Int32 → Int32 → Int32 → (Nat → Int32) → (Nat → Int32) → (Nat → Int32) → (Nat → Int32) → (Nat → Int32) → (Nat → Int32) → (Nat → Int32) → Prop) : Prop := 
    ((v_this_lead = 114 → wp_X8_addRoad N v_this_reader (f_this_numbers (Int32.toNatClampNeg 0)) (f_this_numbers (Int32.toNatClampNeg 1)) v_this_draft_roads f_this_draft_readers f_this_draft_eighths f_this_draft_wishes (fun r2 o2_0 o2_1 o2_2 o2_3 => 
     ((r2 = 0 ∨ r2 = 1) ∧ Φ r2 v_this_draft_words o2_0 f_this_draft_kinds f_this_draft_sets f_this_draft_weights f_this_draft_stocks o2_1 o2_2 o2_3))) ∧
     (v_this_lead = 115 → wp_X8_stock N (f_this_numbers (Int32.toNatClampNeg 0)) (f_this_numbers (Int32.toNatClampNeg 1)) v_this_draft_words f_this_draft_stocks (fun r3 o3_0 => 
     ((r3 = 0 ∨ r3 = 1) ∧ Φ r3 v_this_draft_words v_this_draft_roads f_this_draft_kinds f_this_draft_sets f_this_draft_weights o3_0 f_this_draft_readers f_this_draft_eighths f_this_draft_wishes))) ∧
     (v_this_lead = 116 → wp_J0_indexOf_0f7a4 N 6 (((v_this_lead).toUInt32 % 65536).toInt32) (fun r4 => 
     wp_X8_addWord N r4 16 (f_this_numbers (Int32.toNatClampNeg 0)) v_this_draft_words f_this_draft_kinds f_this_draft_sets f_this_draft_weights f_this_draft_stocks (fun r5 o5_0 o5_1 o5_2 o5_3 o5_4 => 
     ((r5 = 0 ∨ r5 = 1) ∧ Φ r5 o5_0 v_this_draft_roads o5_1 o5_2 o5_3 o5_4 f_this_draft_readers f_this_draft_eighths f_this_draft_wishes)))) ∧
     (v_this_lead = 117 → wp_J0_indexOf_0f7a4 N 6 (((v_this_lead).toUInt32 % 65536).toInt32) (fun r6 => 
     wp_X8_addWord N r6 16 (f_this_numbers (Int32.toNatClampNeg 0)) v_this_draft_words f_this_draft_kinds f_this_draft_sets f_this_draft_weights f_this_draft_stocks (fun r7 o7_0 o7_1 o7_2 o7_3 o7_4 => 
     ((r7 = 0 ∨ r7 = 1) ∧ Φ r7 o7_0 v_this_draft_roads o7_1 o7_2 o7_3 o7_4 f_this_draft_readers f_this_draft_eighths f_this_draft_wishes)))) ∧
     (v_this_lead = 118 → wp_X8_addWord N 0 (f_this_numbers (Int32.toNatClampNeg 0)) (f_this_numbers (Int32.toNatClampNeg 1)) v_this_draft_words f_this_draft_kinds f_this_draft_sets f_this_draft_weights f_this_draft_stocks (fun r8 o8_0 o8_1 o8_2 o8_3 o8_4 => 
     ((r8 = 0 ∨ r8 = 1) ∧ Φ r8 o8_0 v_this_draft_roads o8_1 o8_2 o8_3 o8_4 f_this_draft_readers f_this_draft_eighths f_this_draft_wishes))) ∧
     (¬ (v_this_lead = 114) → ¬ (v_this_lead = 115) → ¬ (v_this_lead = 116) → ¬ (v_this_lead = 117) → ¬ (v_this_lead = 118) → wp_J0_indexOf_0f7a4 N 6 (((v_this_lead).toUInt32 % 65536).toInt32) (fun r9 => 
     wp_X8_addWord N r9 16 (f_this_numbers (Int32.toNatClampNeg 0)) v_this_draft_words f_this_draft_kinds f_this_draft_sets f_this_draft_weights f_this_draft_stocks (fun r10 o10_0 o10_1 o10_2 o10_3 o10_4 => 
     ((r10 = 0 ∨ r10 = 1) ∧ Φ r10 o10_0 v_this_draft_roads o10_1 o10_2 o10_3 o10_4 f_this_draft_readers f_this_draft_eighths f_this_draft_wishes)))))
abbrev zW_X7_addStatement (cI cC cS : ClassId) (q_this : Nat) (q_this_draft : Nat) (q_this_draft_kinds : Nat) (q_this_draft_sets : Nat) (q_this_draft_weights : Nat) (q_this_draft_stocks : Nat) (q_this_draft_readers : Nat) (q_this_draft_eighths : Nat) (q_this_draft_wishes : Nat) (q_this_numbers : Nat) (v_this_read : Int32) (v_this_reader : Int32) (v_this_lead : Int32) (v_this_place : Int32) (v_this_draft_words : Int32) (v_this_draft_roads : Int32) (f_this_draft_kinds : Nat → Int32) (f_this_draft_sets : Nat → Int32) (f_this_draft_weights : Nat → Int32) (f_this_draft_stocks : Nat → Int32) (f_this_draft_readers : Nat → Int32) (f_this_draft_eighths : Nat → Int32) (f_this_draft_wishes : Nat → Int32) (f_this_numbers : Nat → Int32) : va_W := [(q_this, .inr (6, [.ref q_this_draft, .ref q_this_numbers, .int v_this_read, .int v_this_reader, .int v_this_lead, .int v_this_place])),
  (q_this_draft, .inr (7, [.ref q_this_draft_kinds, .ref q_this_draft_sets, .ref q_this_draft_weights, .ref q_this_draft_stocks, .int v_this_draft_words, .ref q_this_draft_readers, .ref q_this_draft_eighths, .ref q_this_draft_wishes, .int v_this_draft_roads])),
  (q_this_draft_kinds, .inl (cI, 6, .inl f_this_draft_kinds)),
  (q_this_draft_sets, .inl (cI, 6, .inl f_this_draft_sets)),
  (q_this_draft_weights, .inl (cI, 6, .inl f_this_draft_weights)),
  (q_this_draft_stocks, .inl (cI, 6, .inl f_this_draft_stocks)),
  (q_this_draft_readers, .inl (cI, 6, .inl f_this_draft_readers)),
  (q_this_draft_eighths, .inl (cI, 6, .inl f_this_draft_eighths)),
  (q_this_draft_wishes, .inl (cI, 6, .inl f_this_draft_wishes)),
  (q_this_numbers, .inl (cI, 2, .inl f_this_numbers))]
abbrev zr_X7_addStatement : Room := { frames := 4, cells := 0, slots := 0, locals := 96 }
set_option maxHeartbeats 4000000 in
set_option maxRecDepth 100000 in
theorem c_X7_addStatement (l : Launch) (dC : Nat → ClassId) (dI : Nat → Nat → Nat) (cI cC cS : ClassId) (adK adV : Nat → Nat) (fm : Value) (q_this : Nat) (q_this_draft : Nat) (q_this_draft_kinds : Nat) (q_this_draft_sets : Nat) (q_this_draft_weights : Nat) (q_this_draft_stocks : Nat) (q_this_draft_readers : Nat) (q_this_draft_eighths : Nat) (q_this_draft_wishes : Nat) (q_this_numbers : Nat) (sz : Nat) (v_this_read : Int32) (v_this_reader : Int32) (v_this_lead : Int32) (v_this_place : Int32) (v_this_draft_words : Int32) (v_this_draft_roads : Int32) (f_this_draft_kinds : Nat → Int32) (f_this_draft_sets : Nat → Int32) (f_this_draft_weights : Nat → Int32) (f_this_draft_stocks : Nat → Int32) (f_this_draft_readers : Nat → Int32) (f_this_draft_eighths : Nat → Int32) (f_this_draft_wishes : Nat → Int32) (f_this_numbers : Nat → Int32) (N : Nat) (Φ : Int32 → Int32 → Int32 → (Nat → Int32) → (Nat → Int32) → (Nat → Int32) → (Nat → Int32) → (Nat → Int32) → (Nat → Int32) → (Nat → Int32) → Prop)  (hf : wp_X7_addStatement N v_this_reader v_this_lead v_this_draft_words v_this_draft_roads f_this_draft_kinds f_this_draft_sets f_this_draft_weights f_this_draft_stocks f_this_draft_readers f_this_draft_eighths f_this_draft_wishes f_this_numbers Φ) : Met l yX7_addStatement wsX7_addStatement zr_X7_addStatement (zPcS (dC, dI) (zT cI cC cS) adK adV fm [.ref q_this] sz (zW_X7_addStatement cI cC cS q_this q_this_draft q_this_draft_kinds q_this_draft_sets q_this_draft_weights q_this_draft_stocks q_this_draft_readers q_this_draft_eighths q_this_draft_wishes q_this_numbers v_this_read v_this_reader v_this_lead v_this_place v_this_draft_words v_this_draft_roads f_this_draft_kinds f_this_draft_sets f_this_draft_weights f_this_draft_stocks f_this_draft_readers f_this_draft_eighths f_this_draft_wishes f_this_numbers)) (zQi (dC, dI) (zT cI cC cS) (va_A (zW_X7_addStatement cI cC cS q_this q_this_draft q_this_draft_kinds q_this_draft_sets q_this_draft_weights q_this_draft_stocks q_this_draft_readers q_this_draft_eighths q_this_draft_wishes q_this_numbers v_this_read v_this_reader v_this_lead v_this_place v_this_draft_words v_this_draft_roads f_this_draft_kinds f_this_draft_sets f_this_draft_weights f_this_draft_stocks f_this_draft_readers f_this_draft_eighths f_this_draft_wishes f_this_numbers) sz) (fun (r : Int32) (u : (Int32) × (Int32) × (Nat → Int32) × (Nat → Int32) × (Nat → Int32) × (Nat → Int32) × (Nat → Int32) × (Nat → Int32) × (Nat → Int32)) => Φ r u.1 u.2.1 u.2.2.1 u.2.2.2.1 u.2.2.2.2.1 u.2.2.2.2.2.1 u.2.2.2.2.2.2.1 u.2.2.2.2.2.2.2.1 u.2.2.2.2.2.2.2.2) (fun u => (zW_X7_addStatement cI cC cS q_this q_this_draft q_this_draft_kinds q_this_draft_sets q_this_draft_weights q_this_draft_stocks q_this_draft_readers q_this_draft_eighths q_this_draft_wishes q_this_numbers v_this_read v_this_reader v_this_lead v_this_place u.1 u.2.1 u.2.2.1 u.2.2.2.1 u.2.2.2.2.1 u.2.2.2.2.2.1 u.2.2.2.2.2.2.1 u.2.2.2.2.2.2.2.1 u.2.2.2.2.2.2.2.2 f_this_numbers))) 0 0 (va_A (zW_X7_addStatement cI cC cS q_this q_this_draft q_this_draft_kinds q_this_draft_sets q_this_draft_weights q_this_draft_stocks q_this_draft_readers q_this_draft_eighths q_this_draft_wishes q_this_numbers v_this_read v_this_reader v_this_lead v_this_place v_this_draft_words v_this_draft_roads f_this_draft_kinds f_this_draft_sets f_this_draft_weights f_this_draft_stocks f_this_draft_readers f_this_draft_eighths f_this_draft_wishes f_this_numbers) sz) := by
  refine Met.ofW (cc := cX7_addStatement) (maxL := 1) (ret := (some .boolean)) (by decide) rfl ?_
  intro p e s m args below meth c s₁ B hml hv
  obtain ⟨rfl, hsz, hP, hK, hD0, hZ⟩ := hv
  have hx := B.exec
  have hb := B.bytes
  have hr := B.returns
  have hts := atoms_spec (ws := wsX7_addStatement) B.pre
  have hown : s.vm.findClass RX7 = some m.cls := findClass_of_methodNamed B.named
  have hlocks := B.notSynchronized
  subst hsz
  have hD := hD0.self (sz := s.heap.size)
  have hA : ∀ q : Nat, s.heap.size ≤ q → va_A (zW_X7_addStatement cI cC cS q_this q_this_draft q_this_draft_kinds q_this_draft_sets q_this_draft_weights q_this_draft_stocks q_this_draft_readers q_this_draft_eighths q_this_draft_wishes q_this_numbers v_this_read v_this_reader v_this_lead v_this_place v_this_draft_words v_this_draft_roads f_this_draft_kinds f_this_draft_sets f_this_draft_weights f_this_draft_stocks f_this_draft_readers f_this_draft_eighths f_this_draft_wishes f_this_numbers) s.heap.size q := fun q h => Or.inr h
  generalize va_A (zW_X7_addStatement cI cC cS q_this q_this_draft q_this_draft_kinds q_this_draft_sets q_this_draft_weights q_this_draft_stocks q_this_draft_readers q_this_draft_eighths q_this_draft_wishes q_this_numbers v_this_read v_this_reader v_this_lead v_this_place v_this_draft_words v_this_draft_roads f_this_draft_kinds f_this_draft_sets f_this_draft_weights f_this_draft_stocks f_this_draft_readers f_this_draft_eighths f_this_draft_wishes f_this_numbers) s.heap.size = A at hD hA hZ ⊢
  have hS : va_S A s.heap s.heap [] := va_S.rf
  have hl := lv_entry ([.ref q_this]) (n := 1) (Nat.le_of_ble_eq_true rfl)
  rw [lg_entry_eq]
  generalize (lg_sl ([.ref q_this]) ++ List.replicate (1 - (lg_sl ([.ref q_this])).length) Slot.unset).toArray = ls at hl ⊢
  have hl : lv_has ls 1 [(0, .ref q_this)] := hl
  have lk1 := hts (.fieldLink RX7 29 "ReadFromAnywhere$Teller" "lead" "I") (List.mem_of_getElem? (i := 1) rfl)
  have inX7 : ∀ w ∈ u_ws RX7 TX7 6, w ∈ wsX7_addStatement := fun _ h => List.mem_cons_of_mem _ (List.mem_append_left _ (List.mem_append_right _ h))
  have lk2 := hts (.fieldLink RX7 12 "ReadFromAnywhere$Teller" "draft" "LReadFromAnywhere$Tongue;") (List.mem_of_getElem? (i := 2) rfl)
  have lk4 := hts (.fieldLink RX7 26 "ReadFromAnywhere$Teller" "reader" "I") (List.mem_of_getElem? (i := 4) rfl)
  have lk3 := hts (.fieldLink RX7 18 "ReadFromAnywhere$Teller" "numbers" "[I") (List.mem_of_getElem? (i := 3) rfl)
  unfold wp_X7_addStatement at hf
  refine lv_aload_n hx hb dX7_addStatement_0 rfl (lv_at hl 0 rfl) ?_
  refine va_get (D := (dC, dI)) (ci := 6) (v := .int v_this_lead) (C := RX7) (T := TX7) (N := 6) hx hb hts inX7 hown hK hP 0 rfl rfl 4 (by decide) lk1 (fun _ h9 => h9) rfl dX7_addStatement_1 ?_
  rcases Classical.em (v_this_lead = 114) with c1_0 | c1_0
  · refine lv_tableIn (off := 57) (tgt := 61) hx hb dX7_addStatement_4 (by rw [c1_0]; decide) (by rw [c1_0]; decide) (by rw [c1_0]; rfl) (by decide) ?_
    replace hf := hf.1 c1_0
    refine lv_aload_n hx hb dX7_addStatement_61 rfl (lv_at hl 0 rfl) ?_
    refine va_get (D := (dC, dI)) (ci := 6) (v := .ref q_this_draft) (C := RX7) (T := TX7) (N := 6) hx hb hts inX7 hown hK hP 0 rfl rfl 0 (by decide) lk2 (fun _ h9 => h9) rfl dX7_addStatement_62 ?_
    refine lv_aload_n hx hb dX7_addStatement_65 rfl (lv_at hl 0 rfl) ?_
    refine va_get (D := (dC, dI)) (ci := 6) (v := .int v_this_reader) (C := RX7) (T := TX7) (N := 6) hx hb hts inX7 hown hK hP 0 rfl rfl 3 (by decide) lk4 (fun _ h9 => h9) rfl dX7_addStatement_66 ?_
    refine lv_aload_n hx hb dX7_addStatement_69 rfl (lv_at hl 0 rfl) ?_
    refine va_get (D := (dC, dI)) (ci := 6) (v := .ref q_this_numbers) (C := RX7) (T := TX7) (N := 6) hx hb hts inX7 hown hK hP 0 rfl rfl 1 (by decide) lk3 (fun _ h9 => h9) rfl dX7_addStatement_70 ?_
    refine lv_iconst (v := 0) hx hb dX7_addStatement_73 (by decide) ?_
    refine va_iald hx hb hK hP 9 0 rfl rfl (i := 0) (by unfold vp_in; decide) dX7_addStatement_74 ?_
    refine lv_aload_n hx hb dX7_addStatement_75 rfl (lv_at hl 0 rfl) ?_
    refine va_get (D := (dC, dI)) (ci := 6) (v := .ref q_this_numbers) (C := RX7) (T := TX7) (N := 6) hx hb hts inX7 hown hK hP 0 rfl rfl 1 (by decide) lk3 (fun _ h9 => h9) rfl dX7_addStatement_76 ?_
    refine lv_iconst (v := 1) hx hb dX7_addStatement_79 (by decide) ?_
    refine va_iald hx hb hK hP 9 0 rfl rfl (i := 1) (by unfold vp_in; decide) dX7_addStatement_80 ?_
    refine z_Vi (n := 3) (As := [.int v_this_reader, .int (f_this_numbers (Int32.toNatClampNeg 0)), .int (f_this_numbers (Int32.toNatClampNeg 1))]) (rest := []) ⟨hx, hb, hml, hown, hts⟩ (c_X8_addRoad l dC dI cI cC cS q_this_draft q_this_draft_readers q_this_draft_eighths q_this_draft_wishes q_this_draft_kinds q_this_draft_sets q_this_draft_weights q_this_draft_stocks _ v_this_draft_words v_this_draft_roads f_this_draft_readers f_this_draft_eighths f_this_draft_wishes v_this_reader (f_this_numbers (Int32.toNatClampNeg 0)) (f_this_numbers (Int32.toNatClampNeg 1)) N _  hf) gX7_addStatement_X8_addRoad rfl rfl rfl (by decide +kernel) ⟨Nat.le_of_ble_eq_true rfl, Nat.le_of_ble_eq_true rfl⟩ hK hP hD hS hA 1 7 rfl rfl rfl hl.1 rfl (Nat.le_of_ble_eq_true rfl) dX7_addStatement_81 ⟨Nat.zero_le _, Nat.zero_le _⟩ [1, 6, 7, 8] [0, 2, 3, 4, 5, 9] (([(q_this, .inr (6, [.ref q_this_draft, .ref q_this_numbers, .int v_this_read, .int v_this_reader, .int v_this_lead, .int v_this_place])), (q_this_draft_kinds, .inl (cI, 6, .inl f_this_draft_kinds)), (q_this_draft_sets, .inl (cI, 6, .inl f_this_draft_sets)), (q_this_draft_weights, .inl (cI, 6, .inl f_this_draft_weights)), (q_this_draft_stocks, .inl (cI, 6, .inl f_this_draft_stocks)), (q_this_numbers, .inl (cI, 2, .inl f_this_numbers))] : va_W)) rfl rfl (by decide) (by decide) (by decide) (fun u => (zW_X7_addStatement cI cC cS q_this q_this_draft q_this_draft_kinds q_this_draft_sets q_this_draft_weights q_this_draft_stocks q_this_draft_readers q_this_draft_eighths q_this_draft_wishes q_this_numbers v_this_read v_this_reader v_this_lead v_this_place v_this_draft_words u.1 f_this_draft_kinds f_this_draft_sets f_this_draft_weights f_this_draft_stocks u.2.1 u.2.2.1 u.2.2.2 f_this_numbers)) [0, 6, 1, 2, 3, 4, 7, 8, 9, 5] (fun u => rfl) (by decide) (fun r2 u2 H locs hf hP hD hS => ?_)
    have hP : va_P (dC, dI) vwCl (zW_X7_addStatement cI cC cS q_this q_this_draft q_this_draft_kinds q_this_draft_sets q_this_draft_weights q_this_draft_stocks q_this_draft_readers q_this_draft_eighths q_this_draft_wishes q_this_numbers v_this_read v_this_reader v_this_lead v_this_place v_this_draft_words u2.1 f_this_draft_kinds f_this_draft_sets f_this_draft_weights f_this_draft_stocks u2.2.1 u2.2.2.1 u2.2.2.2 f_this_numbers) H := hP
    have hD : va_D A (zW_X7_addStatement cI cC cS q_this q_this_draft q_this_draft_kinds q_this_draft_sets q_this_draft_weights q_this_draft_stocks q_this_draft_readers q_this_draft_eighths q_this_draft_wishes q_this_numbers v_this_read v_this_reader v_this_lead v_this_place v_this_draft_words u2.1 f_this_draft_kinds f_this_draft_sets f_this_draft_weights f_this_draft_stocks u2.2.1 u2.2.2.1 u2.2.2.2 f_this_numbers) := hD
    exact z_zret hx hb hr (z_nz hf.1) hlocks (v_this_draft_words, u2.1, f_this_draft_kinds, f_this_draft_sets, f_this_draft_weights, f_this_draft_stocks, u2.2.1, u2.2.2.1, u2.2.2.2) hf.2 hK hP hD hS dX7_addStatement_84
  · rcases Classical.em (v_this_lead = 115) with c1_1 | c1_1
    · refine lv_tableIn (off := 81) (tgt := 85) hx hb dX7_addStatement_4 (by rw [c1_1]; decide) (by rw [c1_1]; decide) (by rw [c1_1]; rfl) (by decide) ?_
      replace hf := hf.2.1 c1_1
      refine lv_aload_n hx hb dX7_addStatement_85 rfl (lv_at hl 0 rfl) ?_
      refine va_get (D := (dC, dI)) (ci := 6) (v := .ref q_this_draft) (C := RX7) (T := TX7) (N := 6) hx hb hts inX7 hown hK hP 0 rfl rfl 0 (by decide) lk2 (fun _ h9 => h9) rfl dX7_addStatement_86 ?_
      refine lv_aload_n hx hb dX7_addStatement_89 rfl (lv_at hl 0 rfl) ?_
      refine va_get (D := (dC, dI)) (ci := 6) (v := .ref q_this_numbers) (C := RX7) (T := TX7) (N := 6) hx hb hts inX7 hown hK hP 0 rfl rfl 1 (by decide) lk3 (fun _ h9 => h9) rfl dX7_addStatement_90 ?_
      refine lv_iconst (v := 0) hx hb dX7_addStatement_93 (by decide) ?_
      refine va_iald hx hb hK hP 9 0 rfl rfl (i := 0) (by unfold vp_in; decide) dX7_addStatement_94 ?_
      refine lv_aload_n hx hb dX7_addStatement_95 rfl (lv_at hl 0 rfl) ?_
      refine va_get (D := (dC, dI)) (ci := 6) (v := .ref q_this_numbers) (C := RX7) (T := TX7) (N := 6) hx hb hts inX7 hown hK hP 0 rfl rfl 1 (by decide) lk3 (fun _ h9 => h9) rfl dX7_addStatement_96 ?_
      refine lv_iconst (v := 1) hx hb dX7_addStatement_99 (by decide) ?_
      refine va_iald hx hb hK hP 9 0 rfl rfl (i := 1) (by unfold vp_in; decide) dX7_addStatement_100 ?_
      refine z_Vi (n := 2) (As := [.int (f_this_numbers (Int32.toNatClampNeg 0)), .int (f_this_numbers (Int32.toNatClampNeg 1))]) (rest := []) ⟨hx, hb, hml, hown, hts⟩ (c_X8_stock l dC dI cI cC cS q_this_draft q_this_draft_stocks q_this_draft_kinds q_this_draft_sets q_this_draft_weights q_this_draft_readers q_this_draft_eighths q_this_draft_wishes _ v_this_draft_words v_this_draft_roads f_this_draft_stocks (f_this_numbers (Int32.toNatClampNeg 0)) (f_this_numbers (Int32.toNatClampNeg 1)) N _  hf) gX7_addStatement_X8_stock rfl rfl rfl (by decide +kernel) ⟨Nat.le_of_ble_eq_true rfl, Nat.le_of_ble_eq_true rfl⟩ hK hP hD hS hA 1 7 rfl rfl rfl hl.1 rfl (Nat.le_of_ble_eq_true rfl) dX7_addStatement_101 ⟨Nat.zero_le _, Nat.zero_le _⟩ [1, 5] [0, 2, 3, 4, 6, 7, 8, 9] (([(q_this, .inr (6, [.ref q_this_draft, .ref q_this_numbers, .int v_this_read, .int v_this_reader, .int v_this_lead, .int v_this_place])), (q_this_draft_kinds, .inl (cI, 6, .inl f_this_draft_kinds)), (q_this_draft_sets, .inl (cI, 6, .inl f_this_draft_sets)), (q_this_draft_weights, .inl (cI, 6, .inl f_this_draft_weights)), (q_this_draft_readers, .inl (cI, 6, .inl f_this_draft_readers)), (q_this_draft_eighths, .inl (cI, 6, .inl f_this_draft_eighths)), (q_this_draft_wishes, .inl (cI, 6, .inl f_this_draft_wishes)), (q_this_numbers, .inl (cI, 2, .inl f_this_numbers))] : va_W)) rfl rfl (by decide) (by decide) (by decide) (fun u => (zW_X7_addStatement cI cC cS q_this q_this_draft q_this_draft_kinds q_this_draft_sets q_this_draft_weights q_this_draft_stocks q_this_draft_readers q_this_draft_eighths q_this_draft_wishes q_this_numbers v_this_read v_this_reader v_this_lead v_this_place v_this_draft_words v_this_draft_roads f_this_draft_kinds f_this_draft_sets f_this_draft_weights u f_this_draft_readers f_this_draft_eighths f_this_draft_wishes f_this_numbers)) [0, 8, 1, 2, 3, 9, 4, 5, 6, 7] (fun u => rfl) (by decide) (fun r3 u3 H locs hf hP hD hS => ?_)
      have hP : va_P (dC, dI) vwCl (zW_X7_addStatement cI cC cS q_this q_this_draft q_this_draft_kinds q_this_draft_sets q_this_draft_weights q_this_draft_stocks q_this_draft_readers q_this_draft_eighths q_this_draft_wishes q_this_numbers v_this_read v_this_reader v_this_lead v_this_place v_this_draft_words v_this_draft_roads f_this_draft_kinds f_this_draft_sets f_this_draft_weights u3 f_this_draft_readers f_this_draft_eighths f_this_draft_wishes f_this_numbers) H := hP
      have hD : va_D A (zW_X7_addStatement cI cC cS q_this q_this_draft q_this_draft_kinds q_this_draft_sets q_this_draft_weights q_this_draft_stocks q_this_draft_readers q_this_draft_eighths q_this_draft_wishes q_this_numbers v_this_read v_this_reader v_this_lead v_this_place v_this_draft_words v_this_draft_roads f_this_draft_kinds f_this_draft_sets f_this_draft_weights u3 f_this_draft_readers f_this_draft_eighths f_this_draft_wishes f_this_numbers) := hD
      exact z_zret hx hb hr (z_nz hf.1) hlocks (v_this_draft_words, v_this_draft_roads, f_this_draft_kinds, f_this_draft_sets, f_this_draft_weights, u3, f_this_draft_readers, f_this_draft_eighths, f_this_draft_wishes) hf.2 hK hP hD hS dX7_addStatement_104
    · rcases Classical.em (v_this_lead = 116) with c1_2 | c1_2
      · refine lv_tableIn (off := 101) (tgt := 105) hx hb dX7_addStatement_4 (by rw [c1_2]; decide) (by rw [c1_2]; decide) (by rw [c1_2]; rfl) (by decide) ?_
        replace hf := hf.2.2.1 c1_2
        refine lv_aload_n hx hb dX7_addStatement_105 rfl (lv_at hl 0 rfl) ?_
        refine va_get (D := (dC, dI)) (ci := 6) (v := .ref q_this_draft) (C := RX7) (T := TX7) (N := 6) hx hb hts inX7 hown hK hP 0 rfl rfl 0 (by decide) lk2 (fun _ h9 => h9) rfl dX7_addStatement_106 ?_
        refine va_ldcS hx hb hown (hZ.2.1 6 (by decide)) dX7_addStatement_109 ?_
        refine lv_aload_n hx hb dX7_addStatement_111 rfl (lv_at hl 0 rfl) ?_
        refine va_get (D := (dC, dI)) (ci := 6) (v := .int v_this_lead) (C := RX7) (T := TX7) (N := 6) hx hb hts inX7 hown hK hP 0 rfl rfl 4 (by decide) lk1 (fun _ h9 => h9) rfl dX7_addStatement_112 ?_
        refine lv_i2c hx hb dX7_addStatement_115 rfl ?_
        refine zs_Vi (n := 1) (As := [.int (((v_this_lead).toUInt32 % 65536).toInt32)]) (rest := [.ref q_this_draft]) ⟨hx, hb, hml, hown, hts⟩ (c_J0_indexOf_0f7a4 l dC dI cI cC cS adK adV fm  _ 6 (by decide) (((v_this_lead).toUInt32 % 65536).toInt32) N _  hf) gX7_addStatement_J0_indexOf_0f7a4 rfl rfl rfl (by decide +kernel) ⟨Nat.le_of_ble_eq_true rfl, Nat.le_of_ble_eq_true rfl⟩ hK hP hD hS hA hZ (vk_recv hZ.1 (by decide) hS) rfl hl.1 rfl (Nat.le_of_ble_eq_true rfl) dX7_addStatement_116 ⟨Nat.zero_le _, Nat.zero_le _⟩ [] [0, 1, 2, 3, 4, 5, 6, 7, 8, 9] (([(q_this, .inr (6, [.ref q_this_draft, .ref q_this_numbers, .int v_this_read, .int v_this_reader, .int v_this_lead, .int v_this_place])), (q_this_draft, .inr (7, [.ref q_this_draft_kinds, .ref q_this_draft_sets, .ref q_this_draft_weights, .ref q_this_draft_stocks, .int v_this_draft_words, .ref q_this_draft_readers, .ref q_this_draft_eighths, .ref q_this_draft_wishes, .int v_this_draft_roads])), (q_this_draft_kinds, .inl (cI, 6, .inl f_this_draft_kinds)), (q_this_draft_sets, .inl (cI, 6, .inl f_this_draft_sets)), (q_this_draft_weights, .inl (cI, 6, .inl f_this_draft_weights)), (q_this_draft_stocks, .inl (cI, 6, .inl f_this_draft_stocks)), (q_this_draft_readers, .inl (cI, 6, .inl f_this_draft_readers)), (q_this_draft_eighths, .inl (cI, 6, .inl f_this_draft_eighths)), (q_this_draft_wishes, .inl (cI, 6, .inl f_this_draft_wishes)), (q_this_numbers, .inl (cI, 2, .inl f_this_numbers))] : va_W)) rfl rfl (by decide) (by decide) (by decide) (fun u => (zW_X7_addStatement cI cC cS q_this q_this_draft q_this_draft_kinds q_this_draft_sets q_this_draft_weights q_this_draft_stocks q_this_draft_readers q_this_draft_eighths q_this_draft_wishes q_this_numbers v_this_read v_this_reader v_this_lead v_this_place v_this_draft_words v_this_draft_roads f_this_draft_kinds f_this_draft_sets f_this_draft_weights f_this_draft_stocks f_this_draft_readers f_this_draft_eighths f_this_draft_wishes f_this_numbers)) [0, 1, 2, 3, 4, 5, 6, 7, 8, 9] (fun u => rfl) (by decide) (fun r4 u4 H locs hf hP hD hS => ?_)
        have hP : va_P (dC, dI) vwCl (zW_X7_addStatement cI cC cS q_this q_this_draft q_this_draft_kinds q_this_draft_sets q_this_draft_weights q_this_draft_stocks q_this_draft_readers q_this_draft_eighths q_this_draft_wishes q_this_numbers v_this_read v_this_reader v_this_lead v_this_place v_this_draft_words v_this_draft_roads f_this_draft_kinds f_this_draft_sets f_this_draft_weights f_this_draft_stocks f_this_draft_readers f_this_draft_eighths f_this_draft_wishes f_this_numbers) H := hP
        have hD : va_D A (zW_X7_addStatement cI cC cS q_this q_this_draft q_this_draft_kinds q_this_draft_sets q_this_draft_weights q_this_draft_stocks q_this_draft_readers q_this_draft_eighths q_this_draft_wishes q_this_numbers v_this_read v_this_reader v_this_lead v_this_place v_this_draft_words v_this_draft_roads f_this_draft_kinds f_this_draft_sets f_this_draft_weights f_this_draft_stocks f_this_draft_readers f_this_draft_eighths f_this_draft_wishes f_this_numbers) := hD
        refine lv_bipush (v := 16) hx hb dX7_addStatement_119 (by decide) ?_
        refine lv_aload_n hx hb dX7_addStatement_121 rfl (lv_at hl 0 rfl) ?_
        refine va_get (D := (dC, dI)) (ci := 6) (v := .ref q_this_numbers) (C := RX7) (T := TX7) (N := 6) hx hb hts inX7 hown hK hP 0 rfl rfl 1 (by decide) lk3 (fun _ h9 => h9) rfl dX7_addStatement_122 ?_
        refine lv_iconst (v := 0) hx hb dX7_addStatement_125 (by decide) ?_
        refine va_iald hx hb hK hP 9 0 rfl rfl (i := 0) (by unfold vp_in; decide) dX7_addStatement_126 ?_
        refine z_Vi (n := 3) (As := [.int r4, .int 16, .int (f_this_numbers (Int32.toNatClampNeg 0))]) (rest := []) ⟨hx, hb, hml, hown, hts⟩ (c_X8_addWord l dC dI cI cC cS q_this_draft q_this_draft_kinds q_this_draft_sets q_this_draft_weights q_this_draft_stocks q_this_draft_readers q_this_draft_eighths q_this_draft_wishes _ v_this_draft_words v_this_draft_roads f_this_draft_kinds f_this_draft_sets f_this_draft_weights f_this_draft_stocks r4 16 (f_this_numbers (Int32.toNatClampNeg 0)) N _  hf) gX7_addStatement_X8_addWord rfl rfl rfl (by decide +kernel) ⟨Nat.le_of_ble_eq_true rfl, Nat.le_of_ble_eq_true rfl⟩ hK hP hD hS hA 1 7 rfl rfl rfl hl.1 rfl (Nat.le_of_ble_eq_true rfl) dX7_addStatement_127 ⟨Nat.zero_le _, Nat.zero_le _⟩ [1, 2, 3, 4, 5] [0, 6, 7, 8, 9] (([(q_this, .inr (6, [.ref q_this_draft, .ref q_this_numbers, .int v_this_read, .int v_this_reader, .int v_this_lead, .int v_this_place])), (q_this_draft_readers, .inl (cI, 6, .inl f_this_draft_readers)), (q_this_draft_eighths, .inl (cI, 6, .inl f_this_draft_eighths)), (q_this_draft_wishes, .inl (cI, 6, .inl f_this_draft_wishes)), (q_this_numbers, .inl (cI, 2, .inl f_this_numbers))] : va_W)) rfl rfl (by decide) (by decide) (by decide) (fun u => (zW_X7_addStatement cI cC cS q_this q_this_draft q_this_draft_kinds q_this_draft_sets q_this_draft_weights q_this_draft_stocks q_this_draft_readers q_this_draft_eighths q_this_draft_wishes q_this_numbers v_this_read v_this_reader v_this_lead v_this_place u.1 v_this_draft_roads u.2.1 u.2.2.1 u.2.2.2.1 u.2.2.2.2 f_this_draft_readers f_this_draft_eighths f_this_draft_wishes f_this_numbers)) [0, 5, 6, 7, 8, 9, 1, 2, 3, 4] (fun u => rfl) (by decide) (fun r5 u5 H locs hf hP hD hS => ?_)
        have hP : va_P (dC, dI) vwCl (zW_X7_addStatement cI cC cS q_this q_this_draft q_this_draft_kinds q_this_draft_sets q_this_draft_weights q_this_draft_stocks q_this_draft_readers q_this_draft_eighths q_this_draft_wishes q_this_numbers v_this_read v_this_reader v_this_lead v_this_place u5.1 v_this_draft_roads u5.2.1 u5.2.2.1 u5.2.2.2.1 u5.2.2.2.2 f_this_draft_readers f_this_draft_eighths f_this_draft_wishes f_this_numbers) H := hP
        have hD : va_D A (zW_X7_addStatement cI cC cS q_this q_this_draft q_this_draft_kinds q_this_draft_sets q_this_draft_weights q_this_draft_stocks q_this_draft_readers q_this_draft_eighths q_this_draft_wishes q_this_numbers v_this_read v_this_reader v_this_lead v_this_place u5.1 v_this_draft_roads u5.2.1 u5.2.2.1 u5.2.2.2.1 u5.2.2.2.2 f_this_draft_readers f_this_draft_eighths f_this_draft_wishes f_this_numbers) := hD
        exact z_zret hx hb hr (z_nz hf.1) hlocks (u5.1, v_this_draft_roads, u5.2.1, u5.2.2.1, u5.2.2.2.1, u5.2.2.2.2, f_this_draft_readers, f_this_draft_eighths, f_this_draft_wishes) hf.2 hK hP hD hS dX7_addStatement_130
      · rcases Classical.em (v_this_lead = 117) with c1_3 | c1_3
        · refine lv_tableIn (off := 101) (tgt := 105) hx hb dX7_addStatement_4 (by rw [c1_3]; decide) (by rw [c1_3]; decide) (by rw [c1_3]; rfl) (by decide) ?_
          replace hf := hf.2.2.2.1 c1_3
          refine lv_aload_n hx hb dX7_addStatement_105 rfl (lv_at hl 0 rfl) ?_
          refine va_get (D := (dC, dI)) (ci := 6) (v := .ref q_this_draft) (C := RX7) (T := TX7) (N := 6) hx hb hts inX7 hown hK hP 0 rfl rfl 0 (by decide) lk2 (fun _ h9 => h9) rfl dX7_addStatement_106 ?_
          refine va_ldcS hx hb hown (hZ.2.1 6 (by decide)) dX7_addStatement_109 ?_
          refine lv_aload_n hx hb dX7_addStatement_111 rfl (lv_at hl 0 rfl) ?_
          refine va_get (D := (dC, dI)) (ci := 6) (v := .int v_this_lead) (C := RX7) (T := TX7) (N := 6) hx hb hts inX7 hown hK hP 0 rfl rfl 4 (by decide) lk1 (fun _ h9 => h9) rfl dX7_addStatement_112 ?_
          refine lv_i2c hx hb dX7_addStatement_115 rfl ?_
          refine zs_Vi (n := 1) (As := [.int (((v_this_lead).toUInt32 % 65536).toInt32)]) (rest := [.ref q_this_draft]) ⟨hx, hb, hml, hown, hts⟩ (c_J0_indexOf_0f7a4 l dC dI cI cC cS adK adV fm  _ 6 (by decide) (((v_this_lead).toUInt32 % 65536).toInt32) N _  hf) gX7_addStatement_J0_indexOf_0f7a4 rfl rfl rfl (by decide +kernel) ⟨Nat.le_of_ble_eq_true rfl, Nat.le_of_ble_eq_true rfl⟩ hK hP hD hS hA hZ (vk_recv hZ.1 (by decide) hS) rfl hl.1 rfl (Nat.le_of_ble_eq_true rfl) dX7_addStatement_116 ⟨Nat.zero_le _, Nat.zero_le _⟩ [] [0, 1, 2, 3, 4, 5, 6, 7, 8, 9] (([(q_this, .inr (6, [.ref q_this_draft, .ref q_this_numbers, .int v_this_read, .int v_this_reader, .int v_this_lead, .int v_this_place])), (q_this_draft, .inr (7, [.ref q_this_draft_kinds, .ref q_this_draft_sets, .ref q_this_draft_weights, .ref q_this_draft_stocks, .int v_this_draft_words, .ref q_this_draft_readers, .ref q_this_draft_eighths, .ref q_this_draft_wishes, .int v_this_draft_roads])), (q_this_draft_kinds, .inl (cI, 6, .inl f_this_draft_kinds)), (q_this_draft_sets, .inl (cI, 6, .inl f_this_draft_sets)), (q_this_draft_weights, .inl (cI, 6, .inl f_this_draft_weights)), (q_this_draft_stocks, .inl (cI, 6, .inl f_this_draft_stocks)), (q_this_draft_readers, .inl (cI, 6, .inl f_this_draft_readers)), (q_this_draft_eighths, .inl (cI, 6, .inl f_this_draft_eighths)), (q_this_draft_wishes, .inl (cI, 6, .inl f_this_draft_wishes)), (q_this_numbers, .inl (cI, 2, .inl f_this_numbers))] : va_W)) rfl rfl (by decide) (by decide) (by decide) (fun u => (zW_X7_addStatement cI cC cS q_this q_this_draft q_this_draft_kinds q_this_draft_sets q_this_draft_weights q_this_draft_stocks q_this_draft_readers q_this_draft_eighths q_this_draft_wishes q_this_numbers v_this_read v_this_reader v_this_lead v_this_place v_this_draft_words v_this_draft_roads f_this_draft_kinds f_this_draft_sets f_this_draft_weights f_this_draft_stocks f_this_draft_readers f_this_draft_eighths f_this_draft_wishes f_this_numbers)) [0, 1, 2, 3, 4, 5, 6, 7, 8, 9] (fun u => rfl) (by decide) (fun r6 u6 H locs hf hP hD hS => ?_)
          have hP : va_P (dC, dI) vwCl (zW_X7_addStatement cI cC cS q_this q_this_draft q_this_draft_kinds q_this_draft_sets q_this_draft_weights q_this_draft_stocks q_this_draft_readers q_this_draft_eighths q_this_draft_wishes q_this_numbers v_this_read v_this_reader v_this_lead v_this_place v_this_draft_words v_this_draft_roads f_this_draft_kinds f_this_draft_sets f_this_draft_weights f_this_draft_stocks f_this_draft_readers f_this_draft_eighths f_this_draft_wishes f_this_numbers) H := hP
          have hD : va_D A (zW_X7_addStatement cI cC cS q_this q_this_draft q_this_draft_kinds q_this_draft_sets q_this_draft_weights q_this_draft_stocks q_this_draft_readers q_this_draft_eighths q_this_draft_wishes q_this_numbers v_this_read v_this_reader v_this_lead v_this_place v_this_draft_words v_this_draft_roads f_this_draft_kinds f_this_draft_sets f_this_draft_weights f_this_draft_stocks f_this_draft_readers f_this_draft_eighths f_this_draft_wishes f_this_numbers) := hD
          refine lv_bipush (v := 16) hx hb dX7_addStatement_119 (by decide) ?_
          refine lv_aload_n hx hb dX7_addStatement_121 rfl (lv_at hl 0 rfl) ?_
          refine va_get (D := (dC, dI)) (ci := 6) (v := .ref q_this_numbers) (C := RX7) (T := TX7) (N := 6) hx hb hts inX7 hown hK hP 0 rfl rfl 1 (by decide) lk3 (fun _ h9 => h9) rfl dX7_addStatement_122 ?_
          refine lv_iconst (v := 0) hx hb dX7_addStatement_125 (by decide) ?_
          refine va_iald hx hb hK hP 9 0 rfl rfl (i := 0) (by unfold vp_in; decide) dX7_addStatement_126 ?_
          refine z_Vi (n := 3) (As := [.int r6, .int 16, .int (f_this_numbers (Int32.toNatClampNeg 0))]) (rest := []) ⟨hx, hb, hml, hown, hts⟩ (c_X8_addWord l dC dI cI cC cS q_this_draft q_this_draft_kinds q_this_draft_sets q_this_draft_weights q_this_draft_stocks q_this_draft_readers q_this_draft_eighths q_this_draft_wishes _ v_this_draft_words v_this_draft_roads f_this_draft_kinds f_this_draft_sets f_this_draft_weights f_this_draft_stocks r6 16 (f_this_numbers (Int32.toNatClampNeg 0)) N _  hf) gX7_addStatement_X8_addWord rfl rfl rfl (by decide +kernel) ⟨Nat.le_of_ble_eq_true rfl, Nat.le_of_ble_eq_true rfl⟩ hK hP hD hS hA 1 7 rfl rfl rfl hl.1 rfl (Nat.le_of_ble_eq_true rfl) dX7_addStatement_127 ⟨Nat.zero_le _, Nat.zero_le _⟩ [1, 2, 3, 4, 5] [0, 6, 7, 8, 9] (([(q_this, .inr (6, [.ref q_this_draft, .ref q_this_numbers, .int v_this_read, .int v_this_reader, .int v_this_lead, .int v_this_place])), (q_this_draft_readers, .inl (cI, 6, .inl f_this_draft_readers)), (q_this_draft_eighths, .inl (cI, 6, .inl f_this_draft_eighths)), (q_this_draft_wishes, .inl (cI, 6, .inl f_this_draft_wishes)), (q_this_numbers, .inl (cI, 2, .inl f_this_numbers))] : va_W)) rfl rfl (by decide) (by decide) (by decide) (fun u => (zW_X7_addStatement cI cC cS q_this q_this_draft q_this_draft_kinds q_this_draft_sets q_this_draft_weights q_this_draft_stocks q_this_draft_readers q_this_draft_eighths q_this_draft_wishes q_this_numbers v_this_read v_this_reader v_this_lead v_this_place u.1 v_this_draft_roads u.2.1 u.2.2.1 u.2.2.2.1 u.2.2.2.2 f_this_draft_readers f_this_draft_eighths f_this_draft_wishes f_this_numbers)) [0, 5, 6, 7, 8, 9, 1, 2, 3, 4] (fun u => rfl) (by decide) (fun r7 u7 H locs hf hP hD hS => ?_)
          have hP : va_P (dC, dI) vwCl (zW_X7_addStatement cI cC cS q_this q_this_draft q_this_draft_kinds q_this_draft_sets q_this_draft_weights q_this_draft_stocks q_this_draft_readers q_this_draft_eighths q_this_draft_wishes q_this_numbers v_this_read v_this_reader v_this_lead v_this_place u7.1 v_this_draft_roads u7.2.1 u7.2.2.1 u7.2.2.2.1 u7.2.2.2.2 f_this_draft_readers f_this_draft_eighths f_this_draft_wishes f_this_numbers) H := hP
          have hD : va_D A (zW_X7_addStatement cI cC cS q_this q_this_draft q_this_draft_kinds q_this_draft_sets q_this_draft_weights q_this_draft_stocks q_this_draft_readers q_this_draft_eighths q_this_draft_wishes q_this_numbers v_this_read v_this_reader v_this_lead v_this_place u7.1 v_this_draft_roads u7.2.1 u7.2.2.1 u7.2.2.2.1 u7.2.2.2.2 f_this_draft_readers f_this_draft_eighths f_this_draft_wishes f_this_numbers) := hD
          exact z_zret hx hb hr (z_nz hf.1) hlocks (u7.1, v_this_draft_roads, u7.2.1, u7.2.2.1, u7.2.2.2.1, u7.2.2.2.2, f_this_draft_readers, f_this_draft_eighths, f_this_draft_wishes) hf.2 hK hP hD hS dX7_addStatement_130
        · rcases Classical.em (v_this_lead = 118) with c1_4 | c1_4
          · refine lv_tableIn (off := 36) (tgt := 40) hx hb dX7_addStatement_4 (by rw [c1_4]; decide) (by rw [c1_4]; decide) (by rw [c1_4]; rfl) (by decide) ?_
            replace hf := hf.2.2.2.2.1 c1_4
            refine lv_aload_n hx hb dX7_addStatement_40 rfl (lv_at hl 0 rfl) ?_
            refine va_get (D := (dC, dI)) (ci := 6) (v := .ref q_this_draft) (C := RX7) (T := TX7) (N := 6) hx hb hts inX7 hown hK hP 0 rfl rfl 0 (by decide) lk2 (fun _ h9 => h9) rfl dX7_addStatement_41 ?_
            refine lv_iconst (v := 0) hx hb dX7_addStatement_44 (by decide) ?_
            refine lv_aload_n hx hb dX7_addStatement_45 rfl (lv_at hl 0 rfl) ?_
            refine va_get (D := (dC, dI)) (ci := 6) (v := .ref q_this_numbers) (C := RX7) (T := TX7) (N := 6) hx hb hts inX7 hown hK hP 0 rfl rfl 1 (by decide) lk3 (fun _ h9 => h9) rfl dX7_addStatement_46 ?_
            refine lv_iconst (v := 0) hx hb dX7_addStatement_49 (by decide) ?_
            refine va_iald hx hb hK hP 9 0 rfl rfl (i := 0) (by unfold vp_in; decide) dX7_addStatement_50 ?_
            refine lv_aload_n hx hb dX7_addStatement_51 rfl (lv_at hl 0 rfl) ?_
            refine va_get (D := (dC, dI)) (ci := 6) (v := .ref q_this_numbers) (C := RX7) (T := TX7) (N := 6) hx hb hts inX7 hown hK hP 0 rfl rfl 1 (by decide) lk3 (fun _ h9 => h9) rfl dX7_addStatement_52 ?_
            refine lv_iconst (v := 1) hx hb dX7_addStatement_55 (by decide) ?_
            refine va_iald hx hb hK hP 9 0 rfl rfl (i := 1) (by unfold vp_in; decide) dX7_addStatement_56 ?_
            refine z_Vi (n := 3) (As := [.int 0, .int (f_this_numbers (Int32.toNatClampNeg 0)), .int (f_this_numbers (Int32.toNatClampNeg 1))]) (rest := []) ⟨hx, hb, hml, hown, hts⟩ (c_X8_addWord l dC dI cI cC cS q_this_draft q_this_draft_kinds q_this_draft_sets q_this_draft_weights q_this_draft_stocks q_this_draft_readers q_this_draft_eighths q_this_draft_wishes _ v_this_draft_words v_this_draft_roads f_this_draft_kinds f_this_draft_sets f_this_draft_weights f_this_draft_stocks 0 (f_this_numbers (Int32.toNatClampNeg 0)) (f_this_numbers (Int32.toNatClampNeg 1)) N _  hf) gX7_addStatement_X8_addWord rfl rfl rfl (by decide +kernel) ⟨Nat.le_of_ble_eq_true rfl, Nat.le_of_ble_eq_true rfl⟩ hK hP hD hS hA 1 7 rfl rfl rfl hl.1 rfl (Nat.le_of_ble_eq_true rfl) dX7_addStatement_57 ⟨Nat.zero_le _, Nat.zero_le _⟩ [1, 2, 3, 4, 5] [0, 6, 7, 8, 9] (([(q_this, .inr (6, [.ref q_this_draft, .ref q_this_numbers, .int v_this_read, .int v_this_reader, .int v_this_lead, .int v_this_place])), (q_this_draft_readers, .inl (cI, 6, .inl f_this_draft_readers)), (q_this_draft_eighths, .inl (cI, 6, .inl f_this_draft_eighths)), (q_this_draft_wishes, .inl (cI, 6, .inl f_this_draft_wishes)), (q_this_numbers, .inl (cI, 2, .inl f_this_numbers))] : va_W)) rfl rfl (by decide) (by decide) (by decide) (fun u => (zW_X7_addStatement cI cC cS q_this q_this_draft q_this_draft_kinds q_this_draft_sets q_this_draft_weights q_this_draft_stocks q_this_draft_readers q_this_draft_eighths q_this_draft_wishes q_this_numbers v_this_read v_this_reader v_this_lead v_this_place u.1 v_this_draft_roads u.2.1 u.2.2.1 u.2.2.2.1 u.2.2.2.2 f_this_draft_readers f_this_draft_eighths f_this_draft_wishes f_this_numbers)) [0, 5, 6, 7, 8, 9, 1, 2, 3, 4] (fun u => rfl) (by decide) (fun r8 u8 H locs hf hP hD hS => ?_)
            have hP : va_P (dC, dI) vwCl (zW_X7_addStatement cI cC cS q_this q_this_draft q_this_draft_kinds q_this_draft_sets q_this_draft_weights q_this_draft_stocks q_this_draft_readers q_this_draft_eighths q_this_draft_wishes q_this_numbers v_this_read v_this_reader v_this_lead v_this_place u8.1 v_this_draft_roads u8.2.1 u8.2.2.1 u8.2.2.2.1 u8.2.2.2.2 f_this_draft_readers f_this_draft_eighths f_this_draft_wishes f_this_numbers) H := hP
            have hD : va_D A (zW_X7_addStatement cI cC cS q_this q_this_draft q_this_draft_kinds q_this_draft_sets q_this_draft_weights q_this_draft_stocks q_this_draft_readers q_this_draft_eighths q_this_draft_wishes q_this_numbers v_this_read v_this_reader v_this_lead v_this_place u8.1 v_this_draft_roads u8.2.1 u8.2.2.1 u8.2.2.2.1 u8.2.2.2.2 f_this_draft_readers f_this_draft_eighths f_this_draft_wishes f_this_numbers) := hD
            exact z_zret hx hb hr (z_nz hf.1) hlocks (u8.1, v_this_draft_roads, u8.2.1, u8.2.2.1, u8.2.2.2.1, u8.2.2.2.2, f_this_draft_readers, f_this_draft_eighths, f_this_draft_wishes) hf.2 hK hP hD hS dX7_addStatement_60
          · have c1_o : Int32.toInt v_this_lead < 114 ∨ 118 < Int32.toInt v_this_lead := by
              have ec1_0 := z_ne c1_0
              have ec1_1 := z_ne c1_1
              have ec1_2 := z_ne c1_2
              have ec1_3 := z_ne c1_3
              have ec1_4 := z_ne c1_4
              simp at ec1_0 ec1_1 ec1_2 ec1_3 ec1_4
              omega
            refine lv_tableOut (tgt := 105) hx hb dX7_addStatement_4 c1_o (by decide) ?_
            replace hf := hf.2.2.2.2.2 c1_0 c1_1 c1_2 c1_3 c1_4
            refine lv_aload_n hx hb dX7_addStatement_105 rfl (lv_at hl 0 rfl) ?_
            refine va_get (D := (dC, dI)) (ci := 6) (v := .ref q_this_draft) (C := RX7) (T := TX7) (N := 6) hx hb hts inX7 hown hK hP 0 rfl rfl 0 (by decide) lk2 (fun _ h9 => h9) rfl dX7_addStatement_106 ?_
            refine va_ldcS hx hb hown (hZ.2.1 6 (by decide)) dX7_addStatement_109 ?_
            refine lv_aload_n hx hb dX7_addStatement_111 rfl (lv_at hl 0 rfl) ?_
            refine va_get (D := (dC, dI)) (ci := 6) (v := .int v_this_lead) (C := RX7) (T := TX7) (N := 6) hx hb hts inX7 hown hK hP 0 rfl rfl 4 (by decide) lk1 (fun _ h9 => h9) rfl dX7_addStatement_112 ?_
            refine lv_i2c hx hb dX7_addStatement_115 rfl ?_
            refine zs_Vi (n := 1) (As := [.int (((v_this_lead).toUInt32 % 65536).toInt32)]) (rest := [.ref q_this_draft]) ⟨hx, hb, hml, hown, hts⟩ (c_J0_indexOf_0f7a4 l dC dI cI cC cS adK adV fm  _ 6 (by decide) (((v_this_lead).toUInt32 % 65536).toInt32) N _  hf) gX7_addStatement_J0_indexOf_0f7a4 rfl rfl rfl (by decide +kernel) ⟨Nat.le_of_ble_eq_true rfl, Nat.le_of_ble_eq_true rfl⟩ hK hP hD hS hA hZ (vk_recv hZ.1 (by decide) hS) rfl hl.1 rfl (Nat.le_of_ble_eq_true rfl) dX7_addStatement_116 ⟨Nat.zero_le _, Nat.zero_le _⟩ [] [0, 1, 2, 3, 4, 5, 6, 7, 8, 9] (([(q_this, .inr (6, [.ref q_this_draft, .ref q_this_numbers, .int v_this_read, .int v_this_reader, .int v_this_lead, .int v_this_place])), (q_this_draft, .inr (7, [.ref q_this_draft_kinds, .ref q_this_draft_sets, .ref q_this_draft_weights, .ref q_this_draft_stocks, .int v_this_draft_words, .ref q_this_draft_readers, .ref q_this_draft_eighths, .ref q_this_draft_wishes, .int v_this_draft_roads])), (q_this_draft_kinds, .inl (cI, 6, .inl f_this_draft_kinds)), (q_this_draft_sets, .inl (cI, 6, .inl f_this_draft_sets)), (q_this_draft_weights, .inl (cI, 6, .inl f_this_draft_weights)), (q_this_draft_stocks, .inl (cI, 6, .inl f_this_draft_stocks)), (q_this_draft_readers, .inl (cI, 6, .inl f_this_draft_readers)), (q_this_draft_eighths, .inl (cI, 6, .inl f_this_draft_eighths)), (q_this_draft_wishes, .inl (cI, 6, .inl f_this_draft_wishes)), (q_this_numbers, .inl (cI, 2, .inl f_this_numbers))] : va_W)) rfl rfl (by decide) (by decide) (by decide) (fun u => (zW_X7_addStatement cI cC cS q_this q_this_draft q_this_draft_kinds q_this_draft_sets q_this_draft_weights q_this_draft_stocks q_this_draft_readers q_this_draft_eighths q_this_draft_wishes q_this_numbers v_this_read v_this_reader v_this_lead v_this_place v_this_draft_words v_this_draft_roads f_this_draft_kinds f_this_draft_sets f_this_draft_weights f_this_draft_stocks f_this_draft_readers f_this_draft_eighths f_this_draft_wishes f_this_numbers)) [0, 1, 2, 3, 4, 5, 6, 7, 8, 9] (fun u => rfl) (by decide) (fun r9 u9 H locs hf hP hD hS => ?_)
            have hP : va_P (dC, dI) vwCl (zW_X7_addStatement cI cC cS q_this q_this_draft q_this_draft_kinds q_this_draft_sets q_this_draft_weights q_this_draft_stocks q_this_draft_readers q_this_draft_eighths q_this_draft_wishes q_this_numbers v_this_read v_this_reader v_this_lead v_this_place v_this_draft_words v_this_draft_roads f_this_draft_kinds f_this_draft_sets f_this_draft_weights f_this_draft_stocks f_this_draft_readers f_this_draft_eighths f_this_draft_wishes f_this_numbers) H := hP
            have hD : va_D A (zW_X7_addStatement cI cC cS q_this q_this_draft q_this_draft_kinds q_this_draft_sets q_this_draft_weights q_this_draft_stocks q_this_draft_readers q_this_draft_eighths q_this_draft_wishes q_this_numbers v_this_read v_this_reader v_this_lead v_this_place v_this_draft_words v_this_draft_roads f_this_draft_kinds f_this_draft_sets f_this_draft_weights f_this_draft_stocks f_this_draft_readers f_this_draft_eighths f_this_draft_wishes f_this_numbers) := hD
            refine lv_bipush (v := 16) hx hb dX7_addStatement_119 (by decide) ?_
            refine lv_aload_n hx hb dX7_addStatement_121 rfl (lv_at hl 0 rfl) ?_
            refine va_get (D := (dC, dI)) (ci := 6) (v := .ref q_this_numbers) (C := RX7) (T := TX7) (N := 6) hx hb hts inX7 hown hK hP 0 rfl rfl 1 (by decide) lk3 (fun _ h9 => h9) rfl dX7_addStatement_122 ?_
            refine lv_iconst (v := 0) hx hb dX7_addStatement_125 (by decide) ?_
            refine va_iald hx hb hK hP 9 0 rfl rfl (i := 0) (by unfold vp_in; decide) dX7_addStatement_126 ?_
            refine z_Vi (n := 3) (As := [.int r9, .int 16, .int (f_this_numbers (Int32.toNatClampNeg 0))]) (rest := []) ⟨hx, hb, hml, hown, hts⟩ (c_X8_addWord l dC dI cI cC cS q_this_draft q_this_draft_kinds q_this_draft_sets q_this_draft_weights q_this_draft_stocks q_this_draft_readers q_this_draft_eighths q_this_draft_wishes _ v_this_draft_words v_this_draft_roads f_this_draft_kinds f_this_draft_sets f_this_draft_weights f_this_draft_stocks r9 16 (f_this_numbers (Int32.toNatClampNeg 0)) N _  hf) gX7_addStatement_X8_addWord rfl rfl rfl (by decide +kernel) ⟨Nat.le_of_ble_eq_true rfl, Nat.le_of_ble_eq_true rfl⟩ hK hP hD hS hA 1 7 rfl rfl rfl hl.1 rfl (Nat.le_of_ble_eq_true rfl) dX7_addStatement_127 ⟨Nat.zero_le _, Nat.zero_le _⟩ [1, 2, 3, 4, 5] [0, 6, 7, 8, 9] (([(q_this, .inr (6, [.ref q_this_draft, .ref q_this_numbers, .int v_this_read, .int v_this_reader, .int v_this_lead, .int v_this_place])), (q_this_draft_readers, .inl (cI, 6, .inl f_this_draft_readers)), (q_this_draft_eighths, .inl (cI, 6, .inl f_this_draft_eighths)), (q_this_draft_wishes, .inl (cI, 6, .inl f_this_draft_wishes)), (q_this_numbers, .inl (cI, 2, .inl f_this_numbers))] : va_W)) rfl rfl (by decide) (by decide) (by decide) (fun u => (zW_X7_addStatement cI cC cS q_this q_this_draft q_this_draft_kinds q_this_draft_sets q_this_draft_weights q_this_draft_stocks q_this_draft_readers q_this_draft_eighths q_this_draft_wishes q_this_numbers v_this_read v_this_reader v_this_lead v_this_place u.1 v_this_draft_roads u.2.1 u.2.2.1 u.2.2.2.1 u.2.2.2.2 f_this_draft_readers f_this_draft_eighths f_this_draft_wishes f_this_numbers)) [0, 5, 6, 7, 8, 9, 1, 2, 3, 4] (fun u => rfl) (by decide) (fun r10 u10 H locs hf hP hD hS => ?_)
            have hP : va_P (dC, dI) vwCl (zW_X7_addStatement cI cC cS q_this q_this_draft q_this_draft_kinds q_this_draft_sets q_this_draft_weights q_this_draft_stocks q_this_draft_readers q_this_draft_eighths q_this_draft_wishes q_this_numbers v_this_read v_this_reader v_this_lead v_this_place u10.1 v_this_draft_roads u10.2.1 u10.2.2.1 u10.2.2.2.1 u10.2.2.2.2 f_this_draft_readers f_this_draft_eighths f_this_draft_wishes f_this_numbers) H := hP
            have hD : va_D A (zW_X7_addStatement cI cC cS q_this q_this_draft q_this_draft_kinds q_this_draft_sets q_this_draft_weights q_this_draft_stocks q_this_draft_readers q_this_draft_eighths q_this_draft_wishes q_this_numbers v_this_read v_this_reader v_this_lead v_this_place u10.1 v_this_draft_roads u10.2.1 u10.2.2.1 u10.2.2.2.1 u10.2.2.2.2 f_this_draft_readers f_this_draft_eighths f_this_draft_wishes f_this_numbers) := hD
            exact z_zret hx hb hr (z_nz hf.1) hlocks (u10.1, v_this_draft_roads, u10.2.1, u10.2.2.1, u10.2.2.2.1, u10.2.2.2.2, f_this_draft_readers, f_this_draft_eighths, f_this_draft_wishes) hf.2 hK hP hD hS dX7_addStatement_130
def ex_X7_tell_83 (N : Nat) (x3 : Int32) (v_this_read : Int32) (v_this_reader : Int32) (v_this_lead : Int32) (v_this_place : Int32) (v_this_draft_words : Int32) (v_this_draft_roads : Int32) (f_this_draft_kinds : Nat → Int32) (f_this_draft_sets : Nat → Int32) (f_this_draft_weights : Nat → Int32) (f_this_draft_stocks : Nat → Int32) (f_this_draft_readers : Nat → Int32) (f_this_draft_eighths : Nat → Int32) (f_this_draft_wishes : Nat → Int32) (f_this_numbers : Nat → Int32) (v_p1_many : Int32) (f_p1_signs : Nat → Int32) (v_p2_words : Int32) (v_p2_roads : Int32) (f_p2_kinds : Nat → Int32) (f_p2_sets : Nat → Int32) (f_p2_weights : Nat → Int32) (f_p2_stocks : Nat → Int32) (f_p2_readers : Nat → Int32) (f_p2_eighths : Nat → Int32) (f_p2_wishes : Nat → Int32) (Φ : Int32 → Int32 → Int32 → Int32 → Int32 → Int32 → Int32 → (Nat → Int32) → (Nat → Int32) → (Nat → Int32) → (Nat → Int32) → (Nat → Int32) → (Nat → Int32) → (Nat → Int32) → (Nat → Int32) → Int32 → Int32 → (Nat → Int32) → (Nat → Int32) → (Nat → Int32) → (Nat → Int32) → (Nat → Int32) → (Nat → Int32) → (Nat → Int32) → Prop) : Prop := 
    wp_X8_copyFrom N v_p2_words v_p2_roads f_p2_kinds f_p2_sets f_p2_weights f_p2_stocks f_p2_readers f_p2_eighths f_p2_wishes v_this_draft_words v_this_draft_roads f_this_draft_kinds f_this_draft_sets f_this_draft_weights f_this_draft_stocks f_this_draft_readers f_this_draft_eighths f_this_draft_wishes (fun o1_0 o1_1 o1_2 o1_3 o1_4 o1_5 o1_6 o1_7 o1_8 => 
     Φ x3 v_this_read v_this_reader v_this_lead v_this_place v_this_draft_words v_this_draft_roads f_this_draft_kinds f_this_draft_sets f_this_draft_weights f_this_draft_stocks f_this_draft_readers f_this_draft_eighths f_this_draft_wishes f_this_numbers o1_0 o1_1 o1_2 o1_3 o1_4 o1_5 o1_6 o1_7 o1_8)
def lp_X7_tell_32 (N : Nat) (v_p1_many : Int32) (f_p1_signs : Nat → Int32) (v_p2_words : Int32) (v_p2_roads : Int32) (f_p2_kinds : Nat → Int32) (f_p2_sets : Nat → Int32) (f_p2_weights : Nat → Int32) (f_p2_stocks : Nat → Int32) (f_p2_readers : Nat → Int32) (f_p2_eighths : Nat → Int32) (f_p2_wishes : Nat → Int32) (Φ : Int32 → Int32 → Int32 → Int32 → Int32 → Int32 → Int32 → (Nat → Int32) → (Nat → Int32) → (Nat → Int32) → (Nat → Int32) → (Nat → Int32) → (Nat → Int32) → (Nat → Int32) → (Nat → Int32) → Int32 → Int32 → (Nat → Int32) → (Nat → Int32) → (Nat → Int32) → (Nat → Int32) → (Nat → Int32) → (Nat → Int32) → (Nat → Int32) → Prop) (k83 : Int32 → Int32 → Int32 → Int32 → Int32 → Int32 → Int32 → (Nat → Int32) → (Nat → Int32) → (Nat → Int32) → (Nat → Int32) → (Nat → Int32) → (Nat → Int32) → (Nat → Int32) → (Nat → Int32) → Prop) : Nat → Int32 → Int32 → Int32 → Int32 → Int32 → Int32 → Int32 → (Nat → Int32) → (Nat → Int32) → (Nat → Int32) → (Nat → Int32) → (Nat → Int32) → (Nat → Int32) → (Nat → Int32) → (Nat → Int32) → Prop
  | 0, _, _, _, _, _, _, _, _, _, _, _, _, _, _, _ => False
  | n + 1, x3, v_this_read, v_this_reader, v_this_lead, v_this_place, v_this_draft_words, v_this_draft_roads, f_this_draft_kinds, f_this_draft_sets, f_this_draft_weights, f_this_draft_stocks, f_this_draft_readers, f_this_draft_eighths, f_this_draft_wishes, f_this_numbers => 
    ((v_p1_many ≤ v_this_place → k83 x3 v_this_read v_this_reader v_this_lead v_this_place v_this_draft_words v_this_draft_roads f_this_draft_kinds f_this_draft_sets f_this_draft_weights f_this_draft_stocks f_this_draft_readers f_this_draft_eighths f_this_draft_wishes f_this_numbers) ∧
     (¬ (v_p1_many ≤ v_this_place) → ((64 ≤ x3 → k83 x3 v_this_read v_this_reader v_this_lead v_this_place v_this_draft_words v_this_draft_roads f_this_draft_kinds f_this_draft_sets f_this_draft_weights f_this_draft_stocks f_this_draft_readers f_this_draft_eighths f_this_draft_wishes f_this_numbers) ∧
     (¬ (64 ≤ x3) → wp_X7_takeStatement N v_this_read v_this_reader v_this_lead v_this_place f_this_numbers v_p1_many f_p1_signs (fun r3 o3_0 o3_1 o3_2 o3_3 o3_4 => 
     ((r3 = 0 → Φ ((-2000) - v_this_place) o3_0 o3_1 o3_2 o3_3 v_this_draft_words v_this_draft_roads f_this_draft_kinds f_this_draft_sets f_this_draft_weights f_this_draft_stocks f_this_draft_readers f_this_draft_eighths f_this_draft_wishes o3_4 v_p2_words v_p2_roads f_p2_kinds f_p2_sets f_p2_weights f_p2_stocks f_p2_readers f_p2_eighths f_p2_wishes) ∧
     (¬ (r3 = 0) → wp_X7_addStatement N o3_1 o3_2 v_this_draft_words v_this_draft_roads f_this_draft_kinds f_this_draft_sets f_this_draft_weights f_this_draft_stocks f_this_draft_readers f_this_draft_eighths f_this_draft_wishes o3_4 (fun r5 o5_0 o5_1 o5_2 o5_3 o5_4 o5_5 o5_6 o5_7 o5_8 => 
     ((r5 = 0 → Φ ((-2000) - v_this_place) o3_0 o3_1 o3_2 o3_3 o5_0 o5_1 o5_2 o5_3 o5_4 o5_5 o5_6 o5_7 o5_8 o3_4 v_p2_words v_p2_roads f_p2_kinds f_p2_sets f_p2_weights f_p2_stocks f_p2_readers f_p2_eighths f_p2_wishes) ∧
     (¬ (r5 = 0) → (lp_X7_tell_32 N v_p1_many f_p1_signs v_p2_words v_p2_roads f_p2_kinds f_p2_sets f_p2_weights f_p2_stocks f_p2_readers f_p2_eighths f_p2_wishes Φ k83 n) (x3 + 1) o3_0 o3_1 o3_2 o3_3 o5_0 o5_1 o5_2 o5_3 o5_4 o5_5 o5_6 o5_7 o5_8 o3_4))))))))))
def wp_X7_tell (N : Nat) (v_this_read : Int32) (v_this_reader : Int32) (v_this_lead : Int32) (v_this_place : Int32) (v_this_draft_words : Int32) (v_this_draft_roads : Int32) (f_this_draft_kinds : Nat → Int32) (f_this_draft_sets : Nat → Int32) (f_this_draft_weights : Nat → Int32) (f_this_draft_stocks : Nat → Int32) (f_this_draft_readers : Nat → Int32) (f_this_draft_eighths : Nat → Int32) (f_this_draft_wishes : Nat → Int32) (f_this_numbers : Nat → Int32) (v_p1_many : Int32) (f_p1_signs : Nat → Int32) (v_p2_words : Int32) (v_p2_roads : Int32) (f_p2_kinds : Nat → Int32) (f_p2_sets : Nat → Int32) (f_p2_weights : Nat → Int32) (f_p2_stocks : Nat → Int32) (f_p2_readers : Nat → Int32) (f_p2_eighths : Nat → Int32) (f_p2_wishes : Nat → Int32) (Φ : Int32 → Int32 → Int32 → Int32 → Int32 → Int32 → Int32 → (Nat → Int32) → (Nat → Int32) → (Nat → Int32) → (Nat → Int32) → (Nat → Int32) → (Nat → Int32) → (Nat → Int32) → (Nat → Int32) → Int32 → Int32 → (Nat → Int32) → (Nat → Int32) → (Nat → Int32) → (Nat → Int32) → (Nat → Int32) → (Nat → Int32) → (Nat → Int32) → Prop) : Prop := 
    wp_X7_hasForm N v_this_read v_this_reader v_this_lead v_this_place f_this_numbers v_p1_many f_p1_signs (fun r1 o1_0 o1_1 o1_2 o1_3 o1_4 => 
     ((r1 = 0 → Φ ((-1000) - o1_3) o1_0 o1_1 o1_2 o1_3 v_this_draft_words v_this_draft_roads f_this_draft_kinds f_this_draft_sets f_this_draft_weights f_this_draft_stocks f_this_draft_readers f_this_draft_eighths f_this_draft_wishes o1_4 v_p2_words v_p2_roads f_p2_kinds f_p2_sets f_p2_weights f_p2_stocks f_p2_readers f_p2_eighths f_p2_wishes) ∧
     (¬ (r1 = 0) → wp_X8_copyFrom N v_this_draft_words v_this_draft_roads f_this_draft_kinds f_this_draft_sets f_this_draft_weights f_this_draft_stocks f_this_draft_readers f_this_draft_eighths f_this_draft_wishes v_p2_words v_p2_roads f_p2_kinds f_p2_sets f_p2_weights f_p2_stocks f_p2_readers f_p2_eighths f_p2_wishes (fun o3_0 o3_1 o3_2 o3_3 o3_4 o3_5 o3_6 o3_7 o3_8 => 
     lp_X7_tell_32 N v_p1_many f_p1_signs v_p2_words v_p2_roads f_p2_kinds f_p2_sets f_p2_weights f_p2_stocks f_p2_readers f_p2_eighths f_p2_wishes Φ (fun x3h32 v_this_readh32 v_this_readerh32 v_this_leadh32 v_this_placeh32 v_this_draft_wordsh32 v_this_draft_roadsh32 f_this_draft_kindsh32 f_this_draft_setsh32 f_this_draft_weightsh32 f_this_draft_stocksh32 f_this_draft_readersh32 f_this_draft_eighthsh32 f_this_draft_wishesh32 f_this_numbersh32 => ex_X7_tell_83 N x3h32 v_this_readh32 v_this_readerh32 v_this_leadh32 v_this_placeh32 v_this_draft_wordsh32 v_this_draft_roadsh32 f_this_draft_kindsh32 f_this_draft_setsh32 f_this_draft_weightsh32 f_this_draft_stocksh32 f_this_draft_readersh32 f_this_draft_eighthsh32 f_this_draft_wishesh32 f_this_numbersh32 v_p1_many f_p1_signs v_p2_words v_p2_roads f_p2_kinds f_p2_sets f_p2_weights f_p2_stocks f_p2_readers f_p2_eighths f_p2_wishes Φ) N 0 o1_0 o1_1 o1_2 0 o3_0 o3_1 o3_2 o3_3 o3_4 o3_5 o3_6 o3_7 o3_8 o1_4))))
abbrev zW_X7_tell (cI cC cS : ClassId) (q_this : Nat) (q_this_draft : Nat) (q_this_draft_kinds : Nat) (q_this_draft_sets : Nat) (q_this_draft_weights : Nat) (q_this_draft_stocks : Nat) (q_this_draft_readers : Nat) (q_this_draft_eighths : Nat) (q_this_draft_wishes : Nat) (q_this_numbers : Nat) (q_p1 : Nat) (q_p1_signs : Nat) (q_p2 : Nat) (q_p2_kinds : Nat) (q_p2_sets : Nat) (q_p2_weights : Nat) (q_p2_stocks : Nat) (q_p2_readers : Nat) (q_p2_eighths : Nat) (q_p2_wishes : Nat) (v_this_read : Int32) (v_this_reader : Int32) (v_this_lead : Int32) (v_this_place : Int32) (v_this_draft_words : Int32) (v_this_draft_roads : Int32) (f_this_draft_kinds : Nat → Int32) (f_this_draft_sets : Nat → Int32) (f_this_draft_weights : Nat → Int32) (f_this_draft_stocks : Nat → Int32) (f_this_draft_readers : Nat → Int32) (f_this_draft_eighths : Nat → Int32) (f_this_draft_wishes : Nat → Int32) (f_this_numbers : Nat → Int32) (v_p1_many : Int32) (f_p1_signs : Nat → Int32) (v_p2_words : Int32) (v_p2_roads : Int32) (f_p2_kinds : Nat → Int32) (f_p2_sets : Nat → Int32) (f_p2_weights : Nat → Int32) (f_p2_stocks : Nat → Int32) (f_p2_readers : Nat → Int32) (f_p2_eighths : Nat → Int32) (f_p2_wishes : Nat → Int32) : va_W := [(q_this, .inr (6, [.ref q_this_draft, .ref q_this_numbers, .int v_this_read, .int v_this_reader, .int v_this_lead, .int v_this_place])),
  (q_this_draft, .inr (7, [.ref q_this_draft_kinds, .ref q_this_draft_sets, .ref q_this_draft_weights, .ref q_this_draft_stocks, .int v_this_draft_words, .ref q_this_draft_readers, .ref q_this_draft_eighths, .ref q_this_draft_wishes, .int v_this_draft_roads])),
  (q_this_draft_kinds, .inl (cI, 6, .inl f_this_draft_kinds)),
  (q_this_draft_sets, .inl (cI, 6, .inl f_this_draft_sets)),
  (q_this_draft_weights, .inl (cI, 6, .inl f_this_draft_weights)),
  (q_this_draft_stocks, .inl (cI, 6, .inl f_this_draft_stocks)),
  (q_this_draft_readers, .inl (cI, 6, .inl f_this_draft_readers)),
  (q_this_draft_eighths, .inl (cI, 6, .inl f_this_draft_eighths)),
  (q_this_draft_wishes, .inl (cI, 6, .inl f_this_draft_wishes)),
  (q_this_numbers, .inl (cI, 2, .inl f_this_numbers)),
  (q_p1, .inr (2, [.ref q_p1_signs, .int v_p1_many])),
  (q_p1_signs, .inl (cI, 64, .inl f_p1_signs)),
  (q_p2, .inr (7, [.ref q_p2_kinds, .ref q_p2_sets, .ref q_p2_weights, .ref q_p2_stocks, .int v_p2_words, .ref q_p2_readers, .ref q_p2_eighths, .ref q_p2_wishes, .int v_p2_roads])),
  (q_p2_kinds, .inl (cI, 6, .inl f_p2_kinds)),
  (q_p2_sets, .inl (cI, 6, .inl f_p2_sets)),
  (q_p2_weights, .inl (cI, 6, .inl f_p2_weights)),
  (q_p2_stocks, .inl (cI, 6, .inl f_p2_stocks)),
  (q_p2_readers, .inl (cI, 6, .inl f_p2_readers)),
  (q_p2_eighths, .inl (cI, 6, .inl f_p2_eighths)),
  (q_p2_wishes, .inl (cI, 6, .inl f_p2_wishes))]
abbrev zr_X7_tell : Room := { frames := 7, cells := 0, slots := 0, locals := 165 }
set_option maxHeartbeats 4000000 in
set_option maxRecDepth 100000 in
theorem c_X7_tell (l : Launch) (dC : Nat → ClassId) (dI : Nat → Nat → Nat) (cI cC cS : ClassId) (adK adV : Nat → Nat) (fm : Value) (q_this : Nat) (q_this_draft : Nat) (q_this_draft_kinds : Nat) (q_this_draft_sets : Nat) (q_this_draft_weights : Nat) (q_this_draft_stocks : Nat) (q_this_draft_readers : Nat) (q_this_draft_eighths : Nat) (q_this_draft_wishes : Nat) (q_this_numbers : Nat) (q_p1 : Nat) (q_p1_signs : Nat) (q_p2 : Nat) (q_p2_kinds : Nat) (q_p2_sets : Nat) (q_p2_weights : Nat) (q_p2_stocks : Nat) (q_p2_readers : Nat) (q_p2_eighths : Nat) (q_p2_wishes : Nat) (sz : Nat) (v_this_read : Int32) (v_this_reader : Int32) (v_this_lead : Int32) (v_this_place : Int32) (v_this_draft_words : Int32) (v_this_draft_roads : Int32) (f_this_draft_kinds : Nat → Int32) (f_this_draft_sets : Nat → Int32) (f_this_draft_weights : Nat → Int32) (f_this_draft_stocks : Nat → Int32) (f_this_draft_readers : Nat → Int32) (f_this_draft_eighths : Nat → Int32) (f_this_draft_wishes : Nat → Int32) (f_this_numbers : Nat → Int32) (v_p1_many : Int32) (f_p1_signs : Nat → Int32) (v_p2_words : Int32) (v_p2_roads : Int32) (f_p2_kinds : Nat → Int32) (f_p2_sets : Nat → Int32) (f_p2_weights : Nat → Int32) (f_p2_stocks : Nat → Int32) (f_p2_readers : Nat → Int32) (f_p2_eighths : Nat → Int32) (f_p2_wishes : Nat → Int32) (N : Nat) (Φ : Int32 → Int32 → Int32 → Int32 → Int32 → Int32 → Int32 → (Nat → Int32) → (Nat → Int32) → (Nat → Int32) → (Nat → Int32) → (Nat → Int32) → (Nat → Int32) → (Nat → Int32) → (Nat → Int32) → Int32 → Int32 → (Nat → Int32) → (Nat → Int32) → (Nat → Int32) → (Nat → Int32) → (Nat → Int32) → (Nat → Int32) → (Nat → Int32) → Prop)  (hf : wp_X7_tell N v_this_read v_this_reader v_this_lead v_this_place v_this_draft_words v_this_draft_roads f_this_draft_kinds f_this_draft_sets f_this_draft_weights f_this_draft_stocks f_this_draft_readers f_this_draft_eighths f_this_draft_wishes f_this_numbers v_p1_many f_p1_signs v_p2_words v_p2_roads f_p2_kinds f_p2_sets f_p2_weights f_p2_stocks f_p2_readers f_p2_eighths f_p2_wishes Φ) : Met l yX7_tell wsX7_tell zr_X7_tell (zPcS (dC, dI) (zT cI cC cS) adK adV fm [.ref q_this, .ref q_p1, .ref q_p2] sz (zW_X7_tell cI cC cS q_this q_this_draft q_this_draft_kinds q_this_draft_sets q_this_draft_weights q_this_draft_stocks q_this_draft_readers q_this_draft_eighths q_this_draft_wishes q_this_numbers q_p1 q_p1_signs q_p2 q_p2_kinds q_p2_sets q_p2_weights q_p2_stocks q_p2_readers q_p2_eighths q_p2_wishes v_this_read v_this_reader v_this_lead v_this_place v_this_draft_words v_this_draft_roads f_this_draft_kinds f_this_draft_sets f_this_draft_weights f_this_draft_stocks f_this_draft_readers f_this_draft_eighths f_this_draft_wishes f_this_numbers v_p1_many f_p1_signs v_p2_words v_p2_roads f_p2_kinds f_p2_sets f_p2_weights f_p2_stocks f_p2_readers f_p2_eighths f_p2_wishes)) (zQi (dC, dI) (zT cI cC cS) (va_A (zW_X7_tell cI cC cS q_this q_this_draft q_this_draft_kinds q_this_draft_sets q_this_draft_weights q_this_draft_stocks q_this_draft_readers q_this_draft_eighths q_this_draft_wishes q_this_numbers q_p1 q_p1_signs q_p2 q_p2_kinds q_p2_sets q_p2_weights q_p2_stocks q_p2_readers q_p2_eighths q_p2_wishes v_this_read v_this_reader v_this_lead v_this_place v_this_draft_words v_this_draft_roads f_this_draft_kinds f_this_draft_sets f_this_draft_weights f_this_draft_stocks f_this_draft_readers f_this_draft_eighths f_this_draft_wishes f_this_numbers v_p1_many f_p1_signs v_p2_words v_p2_roads f_p2_kinds f_p2_sets f_p2_weights f_p2_stocks f_p2_readers f_p2_eighths f_p2_wishes) sz) (fun (r : Int32) (u : (Int32) × (Int32) × (Int32) × (Int32) × (Int32) × (Int32) × (Nat → Int32) × (Nat → Int32) × (Nat → Int32) × (Nat → Int32) × (Nat → Int32) × (Nat → Int32) × (Nat → Int32) × (Nat → Int32) × (Int32) × (Int32) × (Nat → Int32) × (Nat → Int32) × (Nat → Int32) × (Nat → Int32) × (Nat → Int32) × (Nat → Int32) × (Nat → Int32)) => Φ r u.1 u.2.1 u.2.2.1 u.2.2.2.1 u.2.2.2.2.1 u.2.2.2.2.2.1 u.2.2.2.2.2.2.1 u.2.2.2.2.2.2.2.1 u.2.2.2.2.2.2.2.2.1 u.2.2.2.2.2.2.2.2.2.1 u.2.2.2.2.2.2.2.2.2.2.1 u.2.2.2.2.2.2.2.2.2.2.2.1 u.2.2.2.2.2.2.2.2.2.2.2.2.1 u.2.2.2.2.2.2.2.2.2.2.2.2.2.1 u.2.2.2.2.2.2.2.2.2.2.2.2.2.2.1 u.2.2.2.2.2.2.2.2.2.2.2.2.2.2.2.1 u.2.2.2.2.2.2.2.2.2.2.2.2.2.2.2.2.1 u.2.2.2.2.2.2.2.2.2.2.2.2.2.2.2.2.2.1 u.2.2.2.2.2.2.2.2.2.2.2.2.2.2.2.2.2.2.1 u.2.2.2.2.2.2.2.2.2.2.2.2.2.2.2.2.2.2.2.1 u.2.2.2.2.2.2.2.2.2.2.2.2.2.2.2.2.2.2.2.2.1 u.2.2.2.2.2.2.2.2.2.2.2.2.2.2.2.2.2.2.2.2.2.1 u.2.2.2.2.2.2.2.2.2.2.2.2.2.2.2.2.2.2.2.2.2.2) (fun u => (zW_X7_tell cI cC cS q_this q_this_draft q_this_draft_kinds q_this_draft_sets q_this_draft_weights q_this_draft_stocks q_this_draft_readers q_this_draft_eighths q_this_draft_wishes q_this_numbers q_p1 q_p1_signs q_p2 q_p2_kinds q_p2_sets q_p2_weights q_p2_stocks q_p2_readers q_p2_eighths q_p2_wishes u.1 u.2.1 u.2.2.1 u.2.2.2.1 u.2.2.2.2.1 u.2.2.2.2.2.1 u.2.2.2.2.2.2.1 u.2.2.2.2.2.2.2.1 u.2.2.2.2.2.2.2.2.1 u.2.2.2.2.2.2.2.2.2.1 u.2.2.2.2.2.2.2.2.2.2.1 u.2.2.2.2.2.2.2.2.2.2.2.1 u.2.2.2.2.2.2.2.2.2.2.2.2.1 u.2.2.2.2.2.2.2.2.2.2.2.2.2.1 v_p1_many f_p1_signs u.2.2.2.2.2.2.2.2.2.2.2.2.2.2.1 u.2.2.2.2.2.2.2.2.2.2.2.2.2.2.2.1 u.2.2.2.2.2.2.2.2.2.2.2.2.2.2.2.2.1 u.2.2.2.2.2.2.2.2.2.2.2.2.2.2.2.2.2.1 u.2.2.2.2.2.2.2.2.2.2.2.2.2.2.2.2.2.2.1 u.2.2.2.2.2.2.2.2.2.2.2.2.2.2.2.2.2.2.2.1 u.2.2.2.2.2.2.2.2.2.2.2.2.2.2.2.2.2.2.2.2.1 u.2.2.2.2.2.2.2.2.2.2.2.2.2.2.2.2.2.2.2.2.2.1 u.2.2.2.2.2.2.2.2.2.2.2.2.2.2.2.2.2.2.2.2.2.2))) 0 0 (va_A (zW_X7_tell cI cC cS q_this q_this_draft q_this_draft_kinds q_this_draft_sets q_this_draft_weights q_this_draft_stocks q_this_draft_readers q_this_draft_eighths q_this_draft_wishes q_this_numbers q_p1 q_p1_signs q_p2 q_p2_kinds q_p2_sets q_p2_weights q_p2_stocks q_p2_readers q_p2_eighths q_p2_wishes v_this_read v_this_reader v_this_lead v_this_place v_this_draft_words v_this_draft_roads f_this_draft_kinds f_this_draft_sets f_this_draft_weights f_this_draft_stocks f_this_draft_readers f_this_draft_eighths f_this_draft_wishes f_this_numbers v_p1_many f_p1_signs v_p2_words v_p2_roads f_p2_kinds f_p2_sets f_p2_weights f_p2_stocks f_p2_readers f_p2_eighths f_p2_wishes) sz) := by
  refine Met.ofW (cc := cX7_tell) (maxL := 5) (ret := (some .int)) (by decide) rfl ?_
  intro p e s m args below meth c s₁ B hml hv
  obtain ⟨rfl, hsz, hP, hK, hD0, hZ⟩ := hv
  have hx := B.exec
  have hb := B.bytes
  have hr := B.returns
  have hts := atoms_spec (ws := wsX7_tell) B.pre
  have hown : s.vm.findClass RX7 = some m.cls := findClass_of_methodNamed B.named
  have hlocks := B.notSynchronized
  subst hsz
  have hD := hD0.self (sz := s.heap.size)
  have hA : ∀ q : Nat, s.heap.size ≤ q → va_A (zW_X7_tell cI cC cS q_this q_this_draft q_this_draft_kinds q_this_draft_sets q_this_draft_weights q_this_draft_stocks q_this_draft_readers q_this_draft_eighths q_this_draft_wishes q_this_numbers q_p1 q_p1_signs q_p2 q_p2_kinds q_p2_sets q_p2_weights q_p2_stocks q_p2_readers q_p2_eighths q_p2_wishes v_this_read v_this_reader v_this_lead v_this_place v_this_draft_words v_this_draft_roads f_this_draft_kinds f_this_draft_sets f_this_draft_weights f_this_draft_stocks f_this_draft_readers f_this_draft_eighths f_this_draft_wishes f_this_numbers v_p1_many f_p1_signs v_p2_words v_p2_roads f_p2_kinds f_p2_sets f_p2_weights f_p2_stocks f_p2_readers f_p2_eighths f_p2_wishes) s.heap.size q := fun q h => Or.inr h
  generalize va_A (zW_X7_tell cI cC cS q_this q_this_draft q_this_draft_kinds q_this_draft_sets q_this_draft_weights q_this_draft_stocks q_this_draft_readers q_this_draft_eighths q_this_draft_wishes q_this_numbers q_p1 q_p1_signs q_p2 q_p2_kinds q_p2_sets q_p2_weights q_p2_stocks q_p2_readers q_p2_eighths q_p2_wishes v_this_read v_this_reader v_this_lead v_this_place v_this_draft_words v_this_draft_roads f_this_draft_kinds f_this_draft_sets f_this_draft_weights f_this_draft_stocks f_this_draft_readers f_this_draft_eighths f_this_draft_wishes f_this_numbers v_p1_many f_p1_signs v_p2_words v_p2_roads f_p2_kinds f_p2_sets f_p2_weights f_p2_stocks f_p2_readers f_p2_eighths f_p2_wishes) s.heap.size = A at hD hA hZ ⊢
  have hS : va_S A s.heap s.heap [] := va_S.rf
  have hl := lv_entry ([.ref q_this, .ref q_p1, .ref q_p2]) (n := 5) (Nat.le_of_ble_eq_true rfl)
  rw [lg_entry_eq]
  generalize (lg_sl ([.ref q_this, .ref q_p1, .ref q_p2]) ++ List.replicate (5 - (lg_sl ([.ref q_this, .ref q_p1, .ref q_p2])).length) Slot.unset).toArray = ls at hl ⊢
  have hl : lv_has ls 5 [(0, .ref q_this), (1, .ref q_p1), (2, .ref q_p2)] := hl
  have lk2 := hts (.fieldLink RX7 12 "ReadFromAnywhere$Teller" "draft" "LReadFromAnywhere$Tongue;") (List.mem_of_getElem? (i := 2) rfl)
  have inX7 : ∀ w ∈ u_ws RX7 TX7 6, w ∈ wsX7_tell := fun _ h => List.mem_cons_of_mem _ (List.mem_append_left _ (List.mem_append_left _ (List.mem_append_right _ h)))
  have lk1 := hts (.fieldLink RX7 32 "ReadFromAnywhere$Teller" "place" "I") (List.mem_of_getElem? (i := 1) rfl)
  have lk3 := hts (.fieldLink RX7 43 "ReadFromAnywhere$Letters" "many" "I") (List.mem_of_getElem? (i := 3) rfl)
  have inX2 : ∀ w ∈ u_ws RX2 TX2 2, w ∈ wsX7_tell := fun _ h => List.mem_cons_of_mem _ (List.mem_append_left _ (List.mem_append_right _ h))
  have E83 : ∀ (x3 : Int32) (v_this_read : Int32) (v_this_reader : Int32) (v_this_lead : Int32) (v_this_place : Int32) (v_this_draft_words : Int32) (v_this_draft_roads : Int32) (f_this_draft_kinds : Nat → Int32) (f_this_draft_sets : Nat → Int32) (f_this_draft_weights : Nat → Int32) (f_this_draft_stocks : Nat → Int32) (f_this_draft_readers : Nat → Int32) (f_this_draft_eighths : Nat → Int32) (f_this_draft_wishes : Nat → Int32) (f_this_numbers : Nat → Int32) (v_p2_words : Int32) (v_p2_roads : Int32) (f_p2_kinds : Nat → Int32) (f_p2_sets : Nat → Int32) (f_p2_weights : Nat → Int32) (f_p2_stocks : Nat → Int32) (f_p2_readers : Nat → Int32) (f_p2_eighths : Nat → Int32) (f_p2_wishes : Nat → Int32), ∀ (H : Heap) (locs : List Loc) (ls : Array Slot), va_P (dC, dI) vwCl (zW_X7_tell cI cC cS q_this q_this_draft q_this_draft_kinds q_this_draft_sets q_this_draft_weights q_this_draft_stocks q_this_draft_readers q_this_draft_eighths q_this_draft_wishes q_this_numbers q_p1 q_p1_signs q_p2 q_p2_kinds q_p2_sets q_p2_weights q_p2_stocks q_p2_readers q_p2_eighths q_p2_wishes v_this_read v_this_reader v_this_lead v_this_place v_this_draft_words v_this_draft_roads f_this_draft_kinds f_this_draft_sets f_this_draft_weights f_this_draft_stocks f_this_draft_readers f_this_draft_eighths f_this_draft_wishes f_this_numbers v_p1_many f_p1_signs v_p2_words v_p2_roads f_p2_kinds f_p2_sets f_p2_weights f_p2_stocks f_p2_readers f_p2_eighths f_p2_wishes) H → va_D A (zW_X7_tell cI cC cS q_this q_this_draft q_this_draft_kinds q_this_draft_sets q_this_draft_weights q_this_draft_stocks q_this_draft_readers q_this_draft_eighths q_this_draft_wishes q_this_numbers q_p1 q_p1_signs q_p2 q_p2_kinds q_p2_sets q_p2_weights q_p2_stocks q_p2_readers q_p2_eighths q_p2_wishes v_this_read v_this_reader v_this_lead v_this_place v_this_draft_words v_this_draft_roads f_this_draft_kinds f_this_draft_sets f_this_draft_weights f_this_draft_stocks f_this_draft_readers f_this_draft_eighths f_this_draft_wishes f_this_numbers v_p1_many f_p1_signs v_p2_words v_p2_roads f_p2_kinds f_p2_sets f_p2_weights f_p2_stocks f_p2_readers f_p2_eighths f_p2_wishes) → va_S A s.heap H locs → lv_has ls 5 [(0, .ref q_this), (2, .ref q_p2), (3, .int x3)] → ex_X7_tell_83 N x3 v_this_read v_this_reader v_this_lead v_this_place v_this_draft_words v_this_draft_roads f_this_draft_kinds f_this_draft_sets f_this_draft_weights f_this_draft_stocks f_this_draft_readers f_this_draft_eighths f_this_draft_wishes f_this_numbers v_p1_many f_p1_signs v_p2_words v_p2_roads f_p2_kinds f_p2_sets f_p2_weights f_p2_stocks f_p2_readers f_p2_eighths f_p2_wishes Φ → W p l e (headSpec wsX7_tell zr_X7_tell).room s m ([.ref q_this, .ref q_p1, .ref q_p2] : List Value).toArray below meth c H locs 0 0 (MQ below (zQi (dC, dI) (zT cI cC cS) A (fun (r : Int32) (u : (Int32) × (Int32) × (Int32) × (Int32) × (Int32) × (Int32) × (Nat → Int32) × (Nat → Int32) × (Nat → Int32) × (Nat → Int32) × (Nat → Int32) × (Nat → Int32) × (Nat → Int32) × (Nat → Int32) × (Int32) × (Int32) × (Nat → Int32) × (Nat → Int32) × (Nat → Int32) × (Nat → Int32) × (Nat → Int32) × (Nat → Int32) × (Nat → Int32)) => Φ r u.1 u.2.1 u.2.2.1 u.2.2.2.1 u.2.2.2.2.1 u.2.2.2.2.2.1 u.2.2.2.2.2.2.1 u.2.2.2.2.2.2.2.1 u.2.2.2.2.2.2.2.2.1 u.2.2.2.2.2.2.2.2.2.1 u.2.2.2.2.2.2.2.2.2.2.1 u.2.2.2.2.2.2.2.2.2.2.2.1 u.2.2.2.2.2.2.2.2.2.2.2.2.1 u.2.2.2.2.2.2.2.2.2.2.2.2.2.1 u.2.2.2.2.2.2.2.2.2.2.2.2.2.2.1 u.2.2.2.2.2.2.2.2.2.2.2.2.2.2.2.1 u.2.2.2.2.2.2.2.2.2.2.2.2.2.2.2.2.1 u.2.2.2.2.2.2.2.2.2.2.2.2.2.2.2.2.2.1 u.2.2.2.2.2.2.2.2.2.2.2.2.2.2.2.2.2.2.1 u.2.2.2.2.2.2.2.2.2.2.2.2.2.2.2.2.2.2.2.1 u.2.2.2.2.2.2.2.2.2.2.2.2.2.2.2.2.2.2.2.2.1 u.2.2.2.2.2.2.2.2.2.2.2.2.2.2.2.2.2.2.2.2.2.1 u.2.2.2.2.2.2.2.2.2.2.2.2.2.2.2.2.2.2.2.2.2.2) (fun u => (zW_X7_tell cI cC cS q_this q_this_draft q_this_draft_kinds q_this_draft_sets q_this_draft_weights q_this_draft_stocks q_this_draft_readers q_this_draft_eighths q_this_draft_wishes q_this_numbers q_p1 q_p1_signs q_p2 q_p2_kinds q_p2_sets q_p2_weights q_p2_stocks q_p2_readers q_p2_eighths q_p2_wishes u.1 u.2.1 u.2.2.1 u.2.2.2.1 u.2.2.2.2.1 u.2.2.2.2.2.1 u.2.2.2.2.2.2.1 u.2.2.2.2.2.2.2.1 u.2.2.2.2.2.2.2.2.1 u.2.2.2.2.2.2.2.2.2.1 u.2.2.2.2.2.2.2.2.2.2.1 u.2.2.2.2.2.2.2.2.2.2.2.1 u.2.2.2.2.2.2.2.2.2.2.2.2.1 u.2.2.2.2.2.2.2.2.2.2.2.2.2.1 v_p1_many f_p1_signs u.2.2.2.2.2.2.2.2.2.2.2.2.2.2.1 u.2.2.2.2.2.2.2.2.2.2.2.2.2.2.2.1 u.2.2.2.2.2.2.2.2.2.2.2.2.2.2.2.2.1 u.2.2.2.2.2.2.2.2.2.2.2.2.2.2.2.2.2.1 u.2.2.2.2.2.2.2.2.2.2.2.2.2.2.2.2.2.2.1 u.2.2.2.2.2.2.2.2.2.2.2.2.2.2.2.2.2.2.2.1 u.2.2.2.2.2.2.2.2.2.2.2.2.2.2.2.2.2.2.2.2.1 u.2.2.2.2.2.2.2.2.2.2.2.2.2.2.2.2.2.2.2.2.2.1 u.2.2.2.2.2.2.2.2.2.2.2.2.2.2.2.2.2.2.2.2.2.2))) ([.ref q_this, .ref q_p1, .ref q_p2] : List Value).toArray s 0 0 A) (F0 m 83 ls []) := by
    intro x3 v_this_read v_this_reader v_this_lead v_this_place v_this_draft_words v_this_draft_roads f_this_draft_kinds f_this_draft_sets f_this_draft_weights f_this_draft_stocks f_this_draft_readers f_this_draft_eighths f_this_draft_wishes f_this_numbers v_p2_words v_p2_roads f_p2_kinds f_p2_sets f_p2_weights f_p2_stocks f_p2_readers f_p2_eighths f_p2_wishes H locs ls hP hD hS hl hf
    unfold ex_X7_tell_83 at hf
    refine lv_aload_n hx hb dX7_tell_83 rfl (lv_at hl 1 rfl) ?_
    refine lv_aload_n hx hb dX7_tell_84 rfl (lv_at hl 0 rfl) ?_
    refine va_get (D := (dC, dI)) (ci := 6) (v := .ref q_this_draft) (C := RX7) (T := TX7) (N := 6) hx hb hts inX7 hown hK hP 0 rfl rfl 0 (by decide) lk2 (fun _ h9 => h9) rfl dX7_tell_85 ?_
    refine z_Vv (n := 1) (As := [.ref q_this_draft]) (rest := []) ⟨hx, hb, hml, hown, hts⟩ (c_X8_copyFrom l dC dI cI cC cS q_p2 q_p2_kinds q_p2_sets q_p2_weights q_p2_stocks q_p2_readers q_p2_eighths q_p2_wishes q_this_draft q_this_draft_kinds q_this_draft_sets q_this_draft_weights q_this_draft_stocks q_this_draft_readers q_this_draft_eighths q_this_draft_wishes _ v_p2_words v_p2_roads f_p2_kinds f_p2_sets f_p2_weights f_p2_stocks f_p2_readers f_p2_eighths f_p2_wishes v_this_draft_words v_this_draft_roads f_this_draft_kinds f_this_draft_sets f_this_draft_weights f_this_draft_stocks f_this_draft_readers f_this_draft_eighths f_this_draft_wishes  N _  hf) gX7_tell_X8_copyFrom rfl rfl rfl (by decide +kernel) ⟨Nat.le_of_ble_eq_true rfl, Nat.le_of_ble_eq_true rfl⟩ hK hP hD hS hA 12 7 rfl rfl rfl hl.1 rfl (Nat.le_of_ble_eq_true rfl) dX7_tell_88 ⟨Nat.zero_le _, Nat.zero_le _⟩ [12, 13, 14, 15, 16, 17, 18, 19, 1, 2, 3, 4, 5, 6, 7, 8] [0, 9, 10, 11] (([(q_this, .inr (6, [.ref q_this_draft, .ref q_this_numbers, .int v_this_read, .int v_this_reader, .int v_this_lead, .int v_this_place])), (q_this_numbers, .inl (cI, 2, .inl f_this_numbers)), (q_p1, .inr (2, [.ref q_p1_signs, .int v_p1_many])), (q_p1_signs, .inl (cI, 64, .inl f_p1_signs))] : va_W)) rfl rfl (by decide) (by decide) (by decide) (fun u => (zW_X7_tell cI cC cS q_this q_this_draft q_this_draft_kinds q_this_draft_sets q_this_draft_weights q_this_draft_stocks q_this_draft_readers q_this_draft_eighths q_this_draft_wishes q_this_numbers q_p1 q_p1_signs q_p2 q_p2_kinds q_p2_sets q_p2_weights q_p2_stocks q_p2_readers q_p2_eighths q_p2_wishes v_this_read v_this_reader v_this_lead v_this_place v_this_draft_words v_this_draft_roads f_this_draft_kinds f_this_draft_sets f_this_draft_weights f_this_draft_stocks f_this_draft_readers f_this_draft_eighths f_this_draft_wishes f_this_numbers v_p1_many f_p1_signs u.1 u.2.1 u.2.2.1 u.2.2.2.1 u.2.2.2.2.1 u.2.2.2.2.2.1 u.2.2.2.2.2.2.1 u.2.2.2.2.2.2.2.1 u.2.2.2.2.2.2.2.2)) [0, 12, 13, 14, 15, 16, 17, 18, 19, 1, 2, 3, 4, 5, 6, 7, 8, 9, 10, 11] (fun u => rfl) (by decide) (fun u1 H locs hf hP hD hS => ?_)
    have hP : va_P (dC, dI) vwCl (zW_X7_tell cI cC cS q_this q_this_draft q_this_draft_kinds q_this_draft_sets q_this_draft_weights q_this_draft_stocks q_this_draft_readers q_this_draft_eighths q_this_draft_wishes q_this_numbers q_p1 q_p1_signs q_p2 q_p2_kinds q_p2_sets q_p2_weights q_p2_stocks q_p2_readers q_p2_eighths q_p2_wishes v_this_read v_this_reader v_this_lead v_this_place v_this_draft_words v_this_draft_roads f_this_draft_kinds f_this_draft_sets f_this_draft_weights f_this_draft_stocks f_this_draft_readers f_this_draft_eighths f_this_draft_wishes f_this_numbers v_p1_many f_p1_signs u1.1 u1.2.1 u1.2.2.1 u1.2.2.2.1 u1.2.2.2.2.1 u1.2.2.2.2.2.1 u1.2.2.2.2.2.2.1 u1.2.2.2.2.2.2.2.1 u1.2.2.2.2.2.2.2.2) H := hP
    have hD : va_D A (zW_X7_tell cI cC cS q_this q_this_draft q_this_draft_kinds q_this_draft_sets q_this_draft_weights q_this_draft_stocks q_this_draft_readers q_this_draft_eighths q_this_draft_wishes q_this_numbers q_p1 q_p1_signs q_p2 q_p2_kinds q_p2_sets q_p2_weights q_p2_stocks q_p2_readers q_p2_eighths q_p2_wishes v_this_read v_this_reader v_this_lead v_this_place v_this_draft_words v_this_draft_roads f_this_draft_kinds f_this_draft_sets f_this_draft_weights f_this_draft_stocks f_this_draft_readers f_this_draft_eighths f_this_draft_wishes f_this_numbers v_p1_many f_p1_signs u1.1 u1.2.1 u1.2.2.1 u1.2.2.2.1 u1.2.2.2.2.1 u1.2.2.2.2.2.1 u1.2.2.2.2.2.2.1 u1.2.2.2.2.2.2.2.1 u1.2.2.2.2.2.2.2.2) := hD
    refine lv_iload_n hx hb dX7_tell_91 rfl (lv_at hl 2 rfl) ?_
    exact z_iret hx hb hr hlocks (v_this_read, v_this_reader, v_this_lead, v_this_place, v_this_draft_words, v_this_draft_roads, f_this_draft_kinds, f_this_draft_sets, f_this_draft_weights, f_this_draft_stocks, f_this_draft_readers, f_this_draft_eighths, f_this_draft_wishes, f_this_numbers, u1.1, u1.2.1, u1.2.2.1, u1.2.2.2.1, u1.2.2.2.2.1, u1.2.2.2.2.2.1, u1.2.2.2.2.2.2.1, u1.2.2.2.2.2.2.2.1, u1.2.2.2.2.2.2.2.2) hf hK hP hD hS dX7_tell_92
  have L32 : ∀ (v_p2_words : Int32) (v_p2_roads : Int32) (f_p2_kinds : Nat → Int32) (f_p2_sets : Nat → Int32) (f_p2_weights : Nat → Int32) (f_p2_stocks : Nat → Int32) (f_p2_readers : Nat → Int32) (f_p2_eighths : Nat → Int32) (f_p2_wishes : Nat → Int32), ∀ (n32 : Nat) (x3 : Int32) (v_this_read : Int32) (v_this_reader : Int32) (v_this_lead : Int32) (v_this_place : Int32) (v_this_draft_words : Int32) (v_this_draft_roads : Int32) (f_this_draft_kinds : Nat → Int32) (f_this_draft_sets : Nat → Int32) (f_this_draft_weights : Nat → Int32) (f_this_draft_stocks : Nat → Int32) (f_this_draft_readers : Nat → Int32) (f_this_draft_eighths : Nat → Int32) (f_this_draft_wishes : Nat → Int32) (f_this_numbers : Nat → Int32), ∀ (H : Heap) (locs : List Loc) (ls : Array Slot), va_P (dC, dI) vwCl (zW_X7_tell cI cC cS q_this q_this_draft q_this_draft_kinds q_this_draft_sets q_this_draft_weights q_this_draft_stocks q_this_draft_readers q_this_draft_eighths q_this_draft_wishes q_this_numbers q_p1 q_p1_signs q_p2 q_p2_kinds q_p2_sets q_p2_weights q_p2_stocks q_p2_readers q_p2_eighths q_p2_wishes v_this_read v_this_reader v_this_lead v_this_place v_this_draft_words v_this_draft_roads f_this_draft_kinds f_this_draft_sets f_this_draft_weights f_this_draft_stocks f_this_draft_readers f_this_draft_eighths f_this_draft_wishes f_this_numbers v_p1_many f_p1_signs v_p2_words v_p2_roads f_p2_kinds f_p2_sets f_p2_weights f_p2_stocks f_p2_readers f_p2_eighths f_p2_wishes) H → va_D A (zW_X7_tell cI cC cS q_this q_this_draft q_this_draft_kinds q_this_draft_sets q_this_draft_weights q_this_draft_stocks q_this_draft_readers q_this_draft_eighths q_this_draft_wishes q_this_numbers q_p1 q_p1_signs q_p2 q_p2_kinds q_p2_sets q_p2_weights q_p2_stocks q_p2_readers q_p2_eighths q_p2_wishes v_this_read v_this_reader v_this_lead v_this_place v_this_draft_words v_this_draft_roads f_this_draft_kinds f_this_draft_sets f_this_draft_weights f_this_draft_stocks f_this_draft_readers f_this_draft_eighths f_this_draft_wishes f_this_numbers v_p1_many f_p1_signs v_p2_words v_p2_roads f_p2_kinds f_p2_sets f_p2_weights f_p2_stocks f_p2_readers f_p2_eighths f_p2_wishes) → va_S A s.heap H locs → lv_has ls 5 [(0, .ref q_this), (1, .ref q_p1), (2, .ref q_p2), (3, .int x3)] → lp_X7_tell_32 N v_p1_many f_p1_signs v_p2_words v_p2_roads f_p2_kinds f_p2_sets f_p2_weights f_p2_stocks f_p2_readers f_p2_eighths f_p2_wishes Φ (fun x3h32 v_this_readh32 v_this_readerh32 v_this_leadh32 v_this_placeh32 v_this_draft_wordsh32 v_this_draft_roadsh32 f_this_draft_kindsh32 f_this_draft_setsh32 f_this_draft_weightsh32 f_this_draft_stocksh32 f_this_draft_readersh32 f_this_draft_eighthsh32 f_this_draft_wishesh32 f_this_numbersh32 => ex_X7_tell_83 N x3h32 v_this_readh32 v_this_readerh32 v_this_leadh32 v_this_placeh32 v_this_draft_wordsh32 v_this_draft_roadsh32 f_this_draft_kindsh32 f_this_draft_setsh32 f_this_draft_weightsh32 f_this_draft_stocksh32 f_this_draft_readersh32 f_this_draft_eighthsh32 f_this_draft_wishesh32 f_this_numbersh32 v_p1_many f_p1_signs v_p2_words v_p2_roads f_p2_kinds f_p2_sets f_p2_weights f_p2_stocks f_p2_readers f_p2_eighths f_p2_wishes Φ) n32 x3 v_this_read v_this_reader v_this_lead v_this_place v_this_draft_words v_this_draft_roads f_this_draft_kinds f_this_draft_sets f_this_draft_weights f_this_draft_stocks f_this_draft_readers f_this_draft_eighths f_this_draft_wishes f_this_numbers → W p l e (headSpec wsX7_tell zr_X7_tell).room s m ([.ref q_this, .ref q_p1, .ref q_p2] : List Value).toArray below meth c H locs 0 0 (MQ below (zQi (dC, dI) (zT cI cC cS) A (fun (r : Int32) (u : (Int32) × (Int32) × (Int32) × (Int32) × (Int32) × (Int32) × (Nat → Int32) × (Nat → Int32) × (Nat → Int32) × (Nat → Int32) × (Nat → Int32) × (Nat → Int32) × (Nat → Int32) × (Nat → Int32) × (Int32) × (Int32) × (Nat → Int32) × (Nat → Int32) × (Nat → Int32) × (Nat → Int32) × (Nat → Int32) × (Nat → Int32) × (Nat → Int32)) => Φ r u.1 u.2.1 u.2.2.1 u.2.2.2.1 u.2.2.2.2.1 u.2.2.2.2.2.1 u.2.2.2.2.2.2.1 u.2.2.2.2.2.2.2.1 u.2.2.2.2.2.2.2.2.1 u.2.2.2.2.2.2.2.2.2.1 u.2.2.2.2.2.2.2.2.2.2.1 u.2.2.2.2.2.2.2.2.2.2.2.1 u.2.2.2.2.2.2.2.2.2.2.2.2.1 u.2.2.2.2.2.2.2.2.2.2.2.2.2.1 u.2.2.2.2.2.2.2.2.2.2.2.2.2.2.1 u.2.2.2.2.2.2.2.2.2.2.2.2.2.2.2.1 u.2.2.2.2.2.2.2.2.2.2.2.2.2.2.2.2.1 u.2.2.2.2.2.2.2.2.2.2.2.2.2.2.2.2.2.1 u.2.2.2.2.2.2.2.2.2.2.2.2.2.2.2.2.2.2.1 u.2.2.2.2.2.2.2.2.2.2.2.2.2.2.2.2.2.2.2.1 u.2.2.2.2.2.2.2.2.2.2.2.2.2.2.2.2.2.2.2.2.1 u.2.2.2.2.2.2.2.2.2.2.2.2.2.2.2.2.2.2.2.2.2.1 u.2.2.2.2.2.2.2.2.2.2.2.2.2.2.2.2.2.2.2.2.2.2) (fun u => (zW_X7_tell cI cC cS q_this q_this_draft q_this_draft_kinds q_this_draft_sets q_this_draft_weights q_this_draft_stocks q_this_draft_readers q_this_draft_eighths q_this_draft_wishes q_this_numbers q_p1 q_p1_signs q_p2 q_p2_kinds q_p2_sets q_p2_weights q_p2_stocks q_p2_readers q_p2_eighths q_p2_wishes u.1 u.2.1 u.2.2.1 u.2.2.2.1 u.2.2.2.2.1 u.2.2.2.2.2.1 u.2.2.2.2.2.2.1 u.2.2.2.2.2.2.2.1 u.2.2.2.2.2.2.2.2.1 u.2.2.2.2.2.2.2.2.2.1 u.2.2.2.2.2.2.2.2.2.2.1 u.2.2.2.2.2.2.2.2.2.2.2.1 u.2.2.2.2.2.2.2.2.2.2.2.2.1 u.2.2.2.2.2.2.2.2.2.2.2.2.2.1 v_p1_many f_p1_signs u.2.2.2.2.2.2.2.2.2.2.2.2.2.2.1 u.2.2.2.2.2.2.2.2.2.2.2.2.2.2.2.1 u.2.2.2.2.2.2.2.2.2.2.2.2.2.2.2.2.1 u.2.2.2.2.2.2.2.2.2.2.2.2.2.2.2.2.2.1 u.2.2.2.2.2.2.2.2.2.2.2.2.2.2.2.2.2.2.1 u.2.2.2.2.2.2.2.2.2.2.2.2.2.2.2.2.2.2.2.1 u.2.2.2.2.2.2.2.2.2.2.2.2.2.2.2.2.2.2.2.2.1 u.2.2.2.2.2.2.2.2.2.2.2.2.2.2.2.2.2.2.2.2.2.1 u.2.2.2.2.2.2.2.2.2.2.2.2.2.2.2.2.2.2.2.2.2.2))) ([.ref q_this, .ref q_p1, .ref q_p2] : List Value).toArray s 0 0 A) (F0 m 32 ls []) := by
    intro v_p2_words v_p2_roads f_p2_kinds f_p2_sets f_p2_weights f_p2_stocks f_p2_readers f_p2_eighths f_p2_wishes
    intro n32
    induction n32 with
    | zero =>
      intro x3 v_this_read v_this_reader v_this_lead v_this_place v_this_draft_words v_this_draft_roads f_this_draft_kinds f_this_draft_sets f_this_draft_weights f_this_draft_stocks f_this_draft_readers f_this_draft_eighths f_this_draft_wishes f_this_numbers H locs ls hP hD hS hl hf
      exact absurd hf (by rw [lp_X7_tell_32]; exact id)
    | succ n32 ih32 =>
      intro x3 v_this_read v_this_reader v_this_lead v_this_place v_this_draft_words v_this_draft_roads f_this_draft_kinds f_this_draft_sets f_this_draft_weights f_this_draft_stocks f_this_draft_readers f_this_draft_eighths f_this_draft_wishes f_this_numbers H locs ls hP hD hS hl hf
      rw [lp_X7_tell_32] at hf
      refine lv_aload_n hx hb dX7_tell_32 rfl (lv_at hl 0 rfl) ?_
      refine va_get (D := (dC, dI)) (ci := 6) (v := .int v_this_place) (C := RX7) (T := TX7) (N := 6) hx hb hts inX7 hown hK hP 0 rfl rfl 5 (by decide) lk1 (fun _ h9 => h9) rfl dX7_tell_33 ?_
      refine lv_aload_n hx hb dX7_tell_36 rfl (lv_at hl 1 rfl) ?_
      refine va_get (D := (dC, dI)) (ci := 2) (v := .int v_p1_many) (C := RX2) (T := TX2) (N := 2) hx hb hts inX2 hown hK hP 10 rfl rfl 1 (by decide) lk3 (fun _ h9 => h9) rfl dX7_tell_37 ?_
      refine lv_icmp_ge (tgt := 83) hx hb dX7_tell_40 (by decide) (fun c2 => ?_) (fun c2 => ?_)
      · replace hf := hf.1 c2
        exact E83 x3 v_this_read v_this_reader v_this_lead v_this_place v_this_draft_words v_this_draft_roads f_this_draft_kinds f_this_draft_sets f_this_draft_weights f_this_draft_stocks f_this_draft_readers f_this_draft_eighths f_this_draft_wishes f_this_numbers v_p2_words v_p2_roads f_p2_kinds f_p2_sets f_p2_weights f_p2_stocks f_p2_readers f_p2_eighths f_p2_wishes _ _ _ hP hD hS (lv_sub hl [0, 2, 3] rfl) hf
      · replace hf := hf.2 c2
        refine lv_iload_n hx hb dX7_tell_43 rfl (lv_at hl 3 rfl) ?_
        refine lv_bipush (v := 64) hx hb dX7_tell_44 (by decide) ?_
        refine lv_icmp_ge (tgt := 83) hx hb dX7_tell_46 (by decide) (fun c3 => ?_) (fun c3 => ?_)
        · replace hf := hf.1 c3
          exact E83 x3 v_this_read v_this_reader v_this_lead v_this_place v_this_draft_words v_this_draft_roads f_this_draft_kinds f_this_draft_sets f_this_draft_weights f_this_draft_stocks f_this_draft_readers f_this_draft_eighths f_this_draft_wishes f_this_numbers v_p2_words v_p2_roads f_p2_kinds f_p2_sets f_p2_weights f_p2_stocks f_p2_readers f_p2_eighths f_p2_wishes _ _ _ hP hD hS (lv_sub hl [0, 2, 3] rfl) hf
        · replace hf := hf.2 c3
          refine lv_aload_n hx hb dX7_tell_49 rfl (lv_at hl 0 rfl) ?_
          refine va_get (D := (dC, dI)) (ci := 6) (v := .int v_this_place) (C := RX7) (T := TX7) (N := 6) hx hb hts inX7 hown hK hP 0 rfl rfl 5 (by decide) lk1 (fun _ h9 => h9) rfl dX7_tell_50 ?_
          refine lv_istore (lv' := [(4, .int v_this_place), (0, .ref q_this), (1, .ref q_p1), (2, .ref q_p2), (3, .int x3)]) hx hb dX7_tell_53 hl (by decide) rfl (fun ls hl => ?_)
          refine lv_aload_n hx hb dX7_tell_55 rfl (lv_at hl 1 rfl) ?_
          refine lv_aload_n hx hb dX7_tell_56 rfl (lv_at hl 2 rfl) ?_
          refine zs_Vi (n := 1) (As := [.ref q_p1]) (rest := []) ⟨hx, hb, hml, hown, hts⟩ (c_X7_takeStatement l dC dI cI cC cS adK adV fm q_this q_this_numbers q_p1 q_p1_signs q_this_draft _ v_this_read v_this_reader v_this_lead v_this_place f_this_numbers v_p1_many f_p1_signs  N _  hf) gX7_tell_X7_takeStatement rfl rfl rfl (by decide +kernel) ⟨Nat.le_of_ble_eq_true rfl, Nat.le_of_ble_eq_true rfl⟩ hK hP hD hS hA hZ (va_recv hK hP (ci := 6) (q0 := 0) rfl rfl) rfl hl.1 rfl (Nat.le_of_ble_eq_true rfl) dX7_tell_57 ⟨Nat.zero_le _, Nat.zero_le _⟩ [0, 9, 10, 11] [1, 2, 3, 4, 5, 6, 7, 8, 12, 13, 14, 15, 16, 17, 18, 19] (([(q_this_draft, .inr (7, [.ref q_this_draft_kinds, .ref q_this_draft_sets, .ref q_this_draft_weights, .ref q_this_draft_stocks, .int v_this_draft_words, .ref q_this_draft_readers, .ref q_this_draft_eighths, .ref q_this_draft_wishes, .int v_this_draft_roads])), (q_this_draft_kinds, .inl (cI, 6, .inl f_this_draft_kinds)), (q_this_draft_sets, .inl (cI, 6, .inl f_this_draft_sets)), (q_this_draft_weights, .inl (cI, 6, .inl f_this_draft_weights)), (q_this_draft_stocks, .inl (cI, 6, .inl f_this_draft_stocks)), (q_this_draft_readers, .inl (cI, 6, .inl f_this_draft_readers)), (q_this_draft_eighths, .inl (cI, 6, .inl f_this_draft_eighths)), (q_this_draft_wishes, .inl (cI, 6, .inl f_this_draft_wishes)), (q_p2, .inr (7, [.ref q_p2_kinds, .ref q_p2_sets, .ref q_p2_weights, .ref q_p2_stocks, .int v_p2_words, .ref q_p2_readers, .ref q_p2_eighths, .ref q_p2_wishes, .int v_p2_roads])), (q_p2_kinds, .inl (cI, 6, .inl f_p2_kinds)), (q_p2_sets, .inl (cI, 6, .inl f_p2_sets)), (q_p2_weights, .inl (cI, 6, .inl f_p2_weights)), (q_p2_stocks, .inl (cI, 6, .inl f_p2_stocks)), (q_p2_readers, .inl (cI, 6, .inl f_p2_readers)), (q_p2_eighths, .inl (cI, 6, .inl f_p2_eighths)), (q_p2_wishes, .inl (cI, 6, .inl f_p2_wishes))] : va_W)) rfl rfl (by decide) (by decide) (by decide) (fun u => (zW_X7_tell cI cC cS q_this q_this_draft q_this_draft_kinds q_this_draft_sets q_this_draft_weights q_this_draft_stocks q_this_draft_readers q_this_draft_eighths q_this_draft_wishes q_this_numbers q_p1 q_p1_signs q_p2 q_p2_kinds q_p2_sets q_p2_weights q_p2_stocks q_p2_readers q_p2_eighths q_p2_wishes u.1 u.2.1 u.2.2.1 u.2.2.2.1 v_this_draft_words v_this_draft_roads f_this_draft_kinds f_this_draft_sets f_this_draft_weights f_this_draft_stocks f_this_draft_readers f_this_draft_eighths f_this_draft_wishes u.2.2.2.2 v_p1_many f_p1_signs v_p2_words v_p2_roads f_p2_kinds f_p2_sets f_p2_weights f_p2_stocks f_p2_readers f_p2_eighths f_p2_wishes)) [16, 0, 1, 2, 3, 4, 5, 6, 7, 17, 18, 19, 8, 9, 10, 11, 12, 13, 14, 15] (fun u => rfl) (by decide) (fun r4 u4 H locs hf hP hD hS => ?_)
          have hP : va_P (dC, dI) vwCl (zW_X7_tell cI cC cS q_this q_this_draft q_this_draft_kinds q_this_draft_sets q_this_draft_weights q_this_draft_stocks q_this_draft_readers q_this_draft_eighths q_this_draft_wishes q_this_numbers q_p1 q_p1_signs q_p2 q_p2_kinds q_p2_sets q_p2_weights q_p2_stocks q_p2_readers q_p2_eighths q_p2_wishes u4.1 u4.2.1 u4.2.2.1 u4.2.2.2.1 v_this_draft_words v_this_draft_roads f_this_draft_kinds f_this_draft_sets f_this_draft_weights f_this_draft_stocks f_this_draft_readers f_this_draft_eighths f_this_draft_wishes u4.2.2.2.2 v_p1_many f_p1_signs v_p2_words v_p2_roads f_p2_kinds f_p2_sets f_p2_weights f_p2_stocks f_p2_readers f_p2_eighths f_p2_wishes) H := hP
          have hD : va_D A (zW_X7_tell cI cC cS q_this q_this_draft q_this_draft_kinds q_this_draft_sets q_this_draft_weights q_this_draft_stocks q_this_draft_readers q_this_draft_eighths q_this_draft_wishes q_this_numbers q_p1 q_p1_signs q_p2 q_p2_kinds q_p2_sets q_p2_weights q_p2_stocks q_p2_readers q_p2_eighths q_p2_wishes u4.1 u4.2.1 u4.2.2.1 u4.2.2.2.1 v_this_draft_words v_this_draft_roads f_this_draft_kinds f_this_draft_sets f_this_draft_weights f_this_draft_stocks f_this_draft_readers f_this_draft_eighths f_this_draft_wishes u4.2.2.2.2 v_p1_many f_p1_signs v_p2_words v_p2_roads f_p2_kinds f_p2_sets f_p2_weights f_p2_stocks f_p2_readers f_p2_eighths f_p2_wishes) := hD
          refine lv_if_eq (tgt := 70) hx hb dX7_tell_60 (by decide) (fun c5 => ?_) (fun c5 => ?_)
          · replace hf := hf.1 c5
            refine lv_sipush (v := (-2000)) hx hb dX7_tell_70 (by decide) ?_
            refine lv_iload hx hb dX7_tell_73 (lv_at hl 0 rfl) ?_
            refine lv_isub hx hb dX7_tell_75 ?_
            exact z_iret hx hb hr hlocks (u4.1, u4.2.1, u4.2.2.1, u4.2.2.2.1, v_this_draft_words, v_this_draft_roads, f_this_draft_kinds, f_this_draft_sets, f_this_draft_weights, f_this_draft_stocks, f_this_draft_readers, f_this_draft_eighths, f_this_draft_wishes, u4.2.2.2.2, v_p2_words, v_p2_roads, f_p2_kinds, f_p2_sets, f_p2_weights, f_p2_stocks, f_p2_readers, f_p2_eighths, f_p2_wishes) hf hK hP hD hS dX7_tell_76
          · replace hf := hf.2 c5
            refine lv_aload_n hx hb dX7_tell_63 rfl (lv_at hl 1 rfl) ?_
            refine zs_Vi (n := 0) (As := []) (rest := []) ⟨hx, hb, hml, hown, hts⟩ (c_X7_addStatement l dC dI cI cC cS adK adV fm q_this q_this_draft q_this_draft_kinds q_this_draft_sets q_this_draft_weights q_this_draft_stocks q_this_draft_readers q_this_draft_eighths q_this_draft_wishes q_this_numbers _ u4.1 u4.2.1 u4.2.2.1 u4.2.2.2.1 v_this_draft_words v_this_draft_roads f_this_draft_kinds f_this_draft_sets f_this_draft_weights f_this_draft_stocks f_this_draft_readers f_this_draft_eighths f_this_draft_wishes u4.2.2.2.2  N _  hf) gX7_tell_X7_addStatement rfl rfl rfl (by decide +kernel) ⟨Nat.le_of_ble_eq_true rfl, Nat.le_of_ble_eq_true rfl⟩ hK hP hD hS hA hZ (va_recv hK hP (ci := 6) (q0 := 0) rfl rfl) rfl hl.1 rfl (Nat.le_of_ble_eq_true rfl) dX7_tell_64 ⟨Nat.zero_le _, Nat.zero_le _⟩ [0, 1, 2, 3, 4, 5, 6, 7, 8, 9] [10, 11, 12, 13, 14, 15, 16, 17, 18, 19] (([(q_p1, .inr (2, [.ref q_p1_signs, .int v_p1_many])), (q_p1_signs, .inl (cI, 64, .inl f_p1_signs)), (q_p2, .inr (7, [.ref q_p2_kinds, .ref q_p2_sets, .ref q_p2_weights, .ref q_p2_stocks, .int v_p2_words, .ref q_p2_readers, .ref q_p2_eighths, .ref q_p2_wishes, .int v_p2_roads])), (q_p2_kinds, .inl (cI, 6, .inl f_p2_kinds)), (q_p2_sets, .inl (cI, 6, .inl f_p2_sets)), (q_p2_weights, .inl (cI, 6, .inl f_p2_weights)), (q_p2_stocks, .inl (cI, 6, .inl f_p2_stocks)), (q_p2_readers, .inl (cI, 6, .inl f_p2_readers)), (q_p2_eighths, .inl (cI, 6, .inl f_p2_eighths)), (q_p2_wishes, .inl (cI, 6, .inl f_p2_wishes))] : va_W)) rfl rfl (by decide) (by decide) (by decide) (fun u => (zW_X7_tell cI cC cS q_this q_this_draft q_this_draft_kinds q_this_draft_sets q_this_draft_weights q_this_draft_stocks q_this_draft_readers q_this_draft_eighths q_this_draft_wishes q_this_numbers q_p1 q_p1_signs q_p2 q_p2_kinds q_p2_sets q_p2_weights q_p2_stocks q_p2_readers q_p2_eighths q_p2_wishes u4.1 u4.2.1 u4.2.2.1 u4.2.2.2.1 u.1 u.2.1 u.2.2.1 u.2.2.2.1 u.2.2.2.2.1 u.2.2.2.2.2.1 u.2.2.2.2.2.2.1 u.2.2.2.2.2.2.2.1 u.2.2.2.2.2.2.2.2 u4.2.2.2.2 v_p1_many f_p1_signs v_p2_words v_p2_roads f_p2_kinds f_p2_sets f_p2_weights f_p2_stocks f_p2_readers f_p2_eighths f_p2_wishes)) [10, 11, 12, 13, 14, 15, 16, 17, 18, 19, 0, 1, 2, 3, 4, 5, 6, 7, 8, 9] (fun u => rfl) (by decide) (fun r6 u6 H locs hf hP hD hS => ?_)
            have hP : va_P (dC, dI) vwCl (zW_X7_tell cI cC cS q_this q_this_draft q_this_draft_kinds q_this_draft_sets q_this_draft_weights q_this_draft_stocks q_this_draft_readers q_this_draft_eighths q_this_draft_wishes q_this_numbers q_p1 q_p1_signs q_p2 q_p2_kinds q_p2_sets q_p2_weights q_p2_stocks q_p2_readers q_p2_eighths q_p2_wishes u4.1 u4.2.1 u4.2.2.1 u4.2.2.2.1 u6.1 u6.2.1 u6.2.2.1 u6.2.2.2.1 u6.2.2.2.2.1 u6.2.2.2.2.2.1 u6.2.2.2.2.2.2.1 u6.2.2.2.2.2.2.2.1 u6.2.2.2.2.2.2.2.2 u4.2.2.2.2 v_p1_many f_p1_signs v_p2_words v_p2_roads f_p2_kinds f_p2_sets f_p2_weights f_p2_stocks f_p2_readers f_p2_eighths f_p2_wishes) H := hP
            have hD : va_D A (zW_X7_tell cI cC cS q_this q_this_draft q_this_draft_kinds q_this_draft_sets q_this_draft_weights q_this_draft_stocks q_this_draft_readers q_this_draft_eighths q_this_draft_wishes q_this_numbers q_p1 q_p1_signs q_p2 q_p2_kinds q_p2_sets q_p2_weights q_p2_stocks q_p2_readers q_p2_eighths q_p2_wishes u4.1 u4.2.1 u4.2.2.1 u4.2.2.2.1 u6.1 u6.2.1 u6.2.2.1 u6.2.2.2.1 u6.2.2.2.2.1 u6.2.2.2.2.2.1 u6.2.2.2.2.2.2.1 u6.2.2.2.2.2.2.2.1 u6.2.2.2.2.2.2.2.2 u4.2.2.2.2 v_p1_many f_p1_signs v_p2_words v_p2_roads f_p2_kinds f_p2_sets f_p2_weights f_p2_stocks f_p2_readers f_p2_eighths f_p2_wishes) := hD
            refine lv_if_ne (tgt := 77) hx hb dX7_tell_67 (by decide) (fun c7 => ?_) (fun c7 => ?_)
            · replace hf := hf.2 c7
              refine lv_iinc (v := (x3 + 1)) (lv' := [(3, .int (x3 + 1)), (4, .int v_this_place), (0, .ref q_this), (1, .ref q_p1), (2, .ref q_p2)]) hx hb dX7_tell_77 hl (k := 4) rfl (by rfl) (by decide) rfl (fun ls hl => ?_)
              refine lv_goto (tgt := 32) hx hb dX7_tell_80 (by decide) ?_
              exact ih32 (x3 + 1) u4.1 u4.2.1 u4.2.2.1 u4.2.2.2.1 u6.1 u6.2.1 u6.2.2.1 u6.2.2.2.1 u6.2.2.2.2.1 u6.2.2.2.2.2.1 u6.2.2.2.2.2.2.1 u6.2.2.2.2.2.2.2.1 u6.2.2.2.2.2.2.2.2 u4.2.2.2.2 _ _ _ hP hD hS (lv_sub hl [2, 3, 4, 0] rfl) hf
            · replace hf := hf.1 c7
              refine lv_sipush (v := (-2000)) hx hb dX7_tell_70 (by decide) ?_
              refine lv_iload hx hb dX7_tell_73 (lv_at hl 0 rfl) ?_
              refine lv_isub hx hb dX7_tell_75 ?_
              exact z_iret hx hb hr hlocks (u4.1, u4.2.1, u4.2.2.1, u4.2.2.2.1, u6.1, u6.2.1, u6.2.2.1, u6.2.2.2.1, u6.2.2.2.2.1, u6.2.2.2.2.2.1, u6.2.2.2.2.2.2.1, u6.2.2.2.2.2.2.2.1, u6.2.2.2.2.2.2.2.2, u4.2.2.2.2, v_p2_words, v_p2_roads, f_p2_kinds, f_p2_sets, f_p2_weights, f_p2_stocks, f_p2_readers, f_p2_eighths, f_p2_wishes) hf hK hP hD hS dX7_tell_76
  unfold wp_X7_tell at hf
  refine lv_aload_n hx hb dX7_tell_0 rfl (lv_at hl 0 rfl) ?_
  refine lv_aload_n hx hb dX7_tell_1 rfl (lv_at hl 1 rfl) ?_
  refine zs_Vi (n := 1) (As := [.ref q_p1]) (rest := []) ⟨hx, hb, hml, hown, hts⟩ (c_X7_hasForm l dC dI cI cC cS adK adV fm q_this q_this_numbers q_p1 q_p1_signs q_this_draft _ v_this_read v_this_reader v_this_lead v_this_place f_this_numbers v_p1_many f_p1_signs  N _  hf) gX7_tell_X7_hasForm rfl rfl rfl (by decide +kernel) ⟨Nat.le_of_ble_eq_true rfl, Nat.le_of_ble_eq_true rfl⟩ hK hP hD hS hA hZ (va_recv hK hP (ci := 6) (q0 := 0) rfl rfl) rfl hl.1 rfl (Nat.le_of_ble_eq_true rfl) dX7_tell_2 ⟨Nat.zero_le _, Nat.zero_le _⟩ [0, 9, 10, 11] [1, 2, 3, 4, 5, 6, 7, 8, 12, 13, 14, 15, 16, 17, 18, 19] (([(q_this_draft, .inr (7, [.ref q_this_draft_kinds, .ref q_this_draft_sets, .ref q_this_draft_weights, .ref q_this_draft_stocks, .int v_this_draft_words, .ref q_this_draft_readers, .ref q_this_draft_eighths, .ref q_this_draft_wishes, .int v_this_draft_roads])), (q_this_draft_kinds, .inl (cI, 6, .inl f_this_draft_kinds)), (q_this_draft_sets, .inl (cI, 6, .inl f_this_draft_sets)), (q_this_draft_weights, .inl (cI, 6, .inl f_this_draft_weights)), (q_this_draft_stocks, .inl (cI, 6, .inl f_this_draft_stocks)), (q_this_draft_readers, .inl (cI, 6, .inl f_this_draft_readers)), (q_this_draft_eighths, .inl (cI, 6, .inl f_this_draft_eighths)), (q_this_draft_wishes, .inl (cI, 6, .inl f_this_draft_wishes)), (q_p2, .inr (7, [.ref q_p2_kinds, .ref q_p2_sets, .ref q_p2_weights, .ref q_p2_stocks, .int v_p2_words, .ref q_p2_readers, .ref q_p2_eighths, .ref q_p2_wishes, .int v_p2_roads])), (q_p2_kinds, .inl (cI, 6, .inl f_p2_kinds)), (q_p2_sets, .inl (cI, 6, .inl f_p2_sets)), (q_p2_weights, .inl (cI, 6, .inl f_p2_weights)), (q_p2_stocks, .inl (cI, 6, .inl f_p2_stocks)), (q_p2_readers, .inl (cI, 6, .inl f_p2_readers)), (q_p2_eighths, .inl (cI, 6, .inl f_p2_eighths)), (q_p2_wishes, .inl (cI, 6, .inl f_p2_wishes))] : va_W)) rfl rfl (by decide) (by decide) (by decide) (fun u => (zW_X7_tell cI cC cS q_this q_this_draft q_this_draft_kinds q_this_draft_sets q_this_draft_weights q_this_draft_stocks q_this_draft_readers q_this_draft_eighths q_this_draft_wishes q_this_numbers q_p1 q_p1_signs q_p2 q_p2_kinds q_p2_sets q_p2_weights q_p2_stocks q_p2_readers q_p2_eighths q_p2_wishes u.1 u.2.1 u.2.2.1 u.2.2.2.1 v_this_draft_words v_this_draft_roads f_this_draft_kinds f_this_draft_sets f_this_draft_weights f_this_draft_stocks f_this_draft_readers f_this_draft_eighths f_this_draft_wishes u.2.2.2.2 v_p1_many f_p1_signs v_p2_words v_p2_roads f_p2_kinds f_p2_sets f_p2_weights f_p2_stocks f_p2_readers f_p2_eighths f_p2_wishes)) [16, 0, 1, 2, 3, 4, 5, 6, 7, 17, 18, 19, 8, 9, 10, 11, 12, 13, 14, 15] (fun u => rfl) (by decide) (fun r1 u1 H locs hf hP hD hS => ?_)
  have hP : va_P (dC, dI) vwCl (zW_X7_tell cI cC cS q_this q_this_draft q_this_draft_kinds q_this_draft_sets q_this_draft_weights q_this_draft_stocks q_this_draft_readers q_this_draft_eighths q_this_draft_wishes q_this_numbers q_p1 q_p1_signs q_p2 q_p2_kinds q_p2_sets q_p2_weights q_p2_stocks q_p2_readers q_p2_eighths q_p2_wishes u1.1 u1.2.1 u1.2.2.1 u1.2.2.2.1 v_this_draft_words v_this_draft_roads f_this_draft_kinds f_this_draft_sets f_this_draft_weights f_this_draft_stocks f_this_draft_readers f_this_draft_eighths f_this_draft_wishes u1.2.2.2.2 v_p1_many f_p1_signs v_p2_words v_p2_roads f_p2_kinds f_p2_sets f_p2_weights f_p2_stocks f_p2_readers f_p2_eighths f_p2_wishes) H := hP
  have hD : va_D A (zW_X7_tell cI cC cS q_this q_this_draft q_this_draft_kinds q_this_draft_sets q_this_draft_weights q_this_draft_stocks q_this_draft_readers q_this_draft_eighths q_this_draft_wishes q_this_numbers q_p1 q_p1_signs q_p2 q_p2_kinds q_p2_sets q_p2_weights q_p2_stocks q_p2_readers q_p2_eighths q_p2_wishes u1.1 u1.2.1 u1.2.2.1 u1.2.2.2.1 v_this_draft_words v_this_draft_roads f_this_draft_kinds f_this_draft_sets f_this_draft_weights f_this_draft_stocks f_this_draft_readers f_this_draft_eighths f_this_draft_wishes u1.2.2.2.2 v_p1_many f_p1_signs v_p2_words v_p2_roads f_p2_kinds f_p2_sets f_p2_weights f_p2_stocks f_p2_readers f_p2_eighths f_p2_wishes) := hD
  refine lv_if_ne (tgt := 17) hx hb dX7_tell_5 (by decide) (fun c2 => ?_) (fun c2 => ?_)
  · replace hf := hf.2 c2
    refine lv_aload_n hx hb dX7_tell_17 rfl (lv_at hl 0 rfl) ?_
    refine va_get (D := (dC, dI)) (ci := 6) (v := .ref q_this_draft) (C := RX7) (T := TX7) (N := 6) hx hb hts inX7 hown hK hP 0 rfl rfl 0 (by decide) lk2 (fun _ h9 => h9) rfl dX7_tell_18 ?_
    refine lv_aload_n hx hb dX7_tell_21 rfl (lv_at hl 2 rfl) ?_
    refine z_Vv (n := 1) (As := [.ref q_p2]) (rest := []) ⟨hx, hb, hml, hown, hts⟩ (c_X8_copyFrom l dC dI cI cC cS q_this_draft q_this_draft_kinds q_this_draft_sets q_this_draft_weights q_this_draft_stocks q_this_draft_readers q_this_draft_eighths q_this_draft_wishes q_p2 q_p2_kinds q_p2_sets q_p2_weights q_p2_stocks q_p2_readers q_p2_eighths q_p2_wishes _ v_this_draft_words v_this_draft_roads f_this_draft_kinds f_this_draft_sets f_this_draft_weights f_this_draft_stocks f_this_draft_readers f_this_draft_eighths f_this_draft_wishes v_p2_words v_p2_roads f_p2_kinds f_p2_sets f_p2_weights f_p2_stocks f_p2_readers f_p2_eighths f_p2_wishes  N _  hf) gX7_tell_X8_copyFrom rfl rfl rfl (by decide +kernel) ⟨Nat.le_of_ble_eq_true rfl, Nat.le_of_ble_eq_true rfl⟩ hK hP hD hS hA 1 7 rfl rfl rfl hl.1 rfl (Nat.le_of_ble_eq_true rfl) dX7_tell_22 ⟨Nat.zero_le _, Nat.zero_le _⟩ [1, 2, 3, 4, 5, 6, 7, 8, 12, 13, 14, 15, 16, 17, 18, 19] [0, 9, 10, 11] (([(q_this, .inr (6, [.ref q_this_draft, .ref q_this_numbers, .int u1.1, .int u1.2.1, .int u1.2.2.1, .int u1.2.2.2.1])), (q_this_numbers, .inl (cI, 2, .inl u1.2.2.2.2)), (q_p1, .inr (2, [.ref q_p1_signs, .int v_p1_many])), (q_p1_signs, .inl (cI, 64, .inl f_p1_signs))] : va_W)) rfl rfl (by decide) (by decide) (by decide) (fun u => (zW_X7_tell cI cC cS q_this q_this_draft q_this_draft_kinds q_this_draft_sets q_this_draft_weights q_this_draft_stocks q_this_draft_readers q_this_draft_eighths q_this_draft_wishes q_this_numbers q_p1 q_p1_signs q_p2 q_p2_kinds q_p2_sets q_p2_weights q_p2_stocks q_p2_readers q_p2_eighths q_p2_wishes u1.1 u1.2.1 u1.2.2.1 u1.2.2.2.1 u.1 u.2.1 u.2.2.1 u.2.2.2.1 u.2.2.2.2.1 u.2.2.2.2.2.1 u.2.2.2.2.2.2.1 u.2.2.2.2.2.2.2.1 u.2.2.2.2.2.2.2.2 u1.2.2.2.2 v_p1_many f_p1_signs v_p2_words v_p2_roads f_p2_kinds f_p2_sets f_p2_weights f_p2_stocks f_p2_readers f_p2_eighths f_p2_wishes)) [0, 4, 5, 6, 7, 8, 9, 10, 11, 1, 2, 3, 12, 13, 14, 15, 16, 17, 18, 19] (fun u => rfl) (by decide) (fun u3 H locs hf hP hD hS => ?_)
    have hP : va_P (dC, dI) vwCl (zW_X7_tell cI cC cS q_this q_this_draft q_this_draft_kinds q_this_draft_sets q_this_draft_weights q_this_draft_stocks q_this_draft_readers q_this_draft_eighths q_this_draft_wishes q_this_numbers q_p1 q_p1_signs q_p2 q_p2_kinds q_p2_sets q_p2_weights q_p2_stocks q_p2_readers q_p2_eighths q_p2_wishes u1.1 u1.2.1 u1.2.2.1 u1.2.2.2.1 u3.1 u3.2.1 u3.2.2.1 u3.2.2.2.1 u3.2.2.2.2.1 u3.2.2.2.2.2.1 u3.2.2.2.2.2.2.1 u3.2.2.2.2.2.2.2.1 u3.2.2.2.2.2.2.2.2 u1.2.2.2.2 v_p1_many f_p1_signs v_p2_words v_p2_roads f_p2_kinds f_p2_sets f_p2_weights f_p2_stocks f_p2_readers f_p2_eighths f_p2_wishes) H := hP
    have hD : va_D A (zW_X7_tell cI cC cS q_this q_this_draft q_this_draft_kinds q_this_draft_sets q_this_draft_weights q_this_draft_stocks q_this_draft_readers q_this_draft_eighths q_this_draft_wishes q_this_numbers q_p1 q_p1_signs q_p2 q_p2_kinds q_p2_sets q_p2_weights q_p2_stocks q_p2_readers q_p2_eighths q_p2_wishes u1.1 u1.2.1 u1.2.2.1 u1.2.2.2.1 u3.1 u3.2.1 u3.2.2.1 u3.2.2.2.1 u3.2.2.2.2.1 u3.2.2.2.2.2.1 u3.2.2.2.2.2.2.1 u3.2.2.2.2.2.2.2.1 u3.2.2.2.2.2.2.2.2 u1.2.2.2.2 v_p1_many f_p1_signs v_p2_words v_p2_roads f_p2_kinds f_p2_sets f_p2_weights f_p2_stocks f_p2_readers f_p2_eighths f_p2_wishes) := hD
    refine lv_aload_n hx hb dX7_tell_25 rfl (lv_at hl 0 rfl) ?_
    refine lv_iconst (v := 0) hx hb dX7_tell_26 (by decide) ?_
    refine va_put (D := (dC, dI)) (ci := 6) (v := .int 0) (ty := .int) (C := RX7) (T := TX7) (N := 6) hx hb hts inX7 tyX7 tyX7_ok nmX7 hown hK hP hD hS 0 rfl rfl 5 (by decide) lk1 (fun _ h9 => h9) rfl (by decide +kernel) rfl rfl (Nat.le_of_ble_eq_true rfl) dX7_tell_27 (fun H locs hP hD hS => ?_)
    have hP : va_P (dC, dI) vwCl (zW_X7_tell cI cC cS q_this q_this_draft q_this_draft_kinds q_this_draft_sets q_this_draft_weights q_this_draft_stocks q_this_draft_readers q_this_draft_eighths q_this_draft_wishes q_this_numbers q_p1 q_p1_signs q_p2 q_p2_kinds q_p2_sets q_p2_weights q_p2_stocks q_p2_readers q_p2_eighths q_p2_wishes u1.1 u1.2.1 u1.2.2.1 0 u3.1 u3.2.1 u3.2.2.1 u3.2.2.2.1 u3.2.2.2.2.1 u3.2.2.2.2.2.1 u3.2.2.2.2.2.2.1 u3.2.2.2.2.2.2.2.1 u3.2.2.2.2.2.2.2.2 u1.2.2.2.2 v_p1_many f_p1_signs v_p2_words v_p2_roads f_p2_kinds f_p2_sets f_p2_weights f_p2_stocks f_p2_readers f_p2_eighths f_p2_wishes) H := hP
    have hD : va_D A (zW_X7_tell cI cC cS q_this q_this_draft q_this_draft_kinds q_this_draft_sets q_this_draft_weights q_this_draft_stocks q_this_draft_readers q_this_draft_eighths q_this_draft_wishes q_this_numbers q_p1 q_p1_signs q_p2 q_p2_kinds q_p2_sets q_p2_weights q_p2_stocks q_p2_readers q_p2_eighths q_p2_wishes u1.1 u1.2.1 u1.2.2.1 0 u3.1 u3.2.1 u3.2.2.1 u3.2.2.2.1 u3.2.2.2.2.1 u3.2.2.2.2.2.1 u3.2.2.2.2.2.2.1 u3.2.2.2.2.2.2.2.1 u3.2.2.2.2.2.2.2.2 u1.2.2.2.2 v_p1_many f_p1_signs v_p2_words v_p2_roads f_p2_kinds f_p2_sets f_p2_weights f_p2_stocks f_p2_readers f_p2_eighths f_p2_wishes) := hD
    refine lv_iconst (v := 0) hx hb dX7_tell_30 (by decide) ?_
    refine lv_istore_n (lv' := [(3, .int 0), (0, .ref q_this), (1, .ref q_p1), (2, .ref q_p2)]) hx hb dX7_tell_31 rfl hl (by decide) rfl (fun ls hl => ?_)
    exact L32 v_p2_words v_p2_roads f_p2_kinds f_p2_sets f_p2_weights f_p2_stocks f_p2_readers f_p2_eighths f_p2_wishes N 0 u1.1 u1.2.1 u1.2.2.1 0 u3.1 u3.2.1 u3.2.2.1 u3.2.2.2.1 u3.2.2.2.2.1 u3.2.2.2.2.2.1 u3.2.2.2.2.2.2.1 u3.2.2.2.2.2.2.2.1 u3.2.2.2.2.2.2.2.2 u1.2.2.2.2 _ _ _ hP hD hS (lv_sub hl [1, 2, 3, 0] rfl) hf
  · replace hf := hf.1 c2
    refine lv_sipush (v := (-1000)) hx hb dX7_tell_8 (by decide) ?_
    refine lv_aload_n hx hb dX7_tell_11 rfl (lv_at hl 0 rfl) ?_
    refine va_get (D := (dC, dI)) (ci := 6) (v := .int u1.2.2.2.1) (C := RX7) (T := TX7) (N := 6) hx hb hts inX7 hown hK hP 0 rfl rfl 5 (by decide) lk1 (fun _ h9 => h9) rfl dX7_tell_12 ?_
    refine lv_isub hx hb dX7_tell_15 ?_
    exact z_iret hx hb hr hlocks (u1.1, u1.2.1, u1.2.2.1, u1.2.2.2.1, v_this_draft_words, v_this_draft_roads, f_this_draft_kinds, f_this_draft_sets, f_this_draft_weights, f_this_draft_stocks, f_this_draft_readers, f_this_draft_eighths, f_this_draft_wishes, u1.2.2.2.2, v_p2_words, v_p2_roads, f_p2_kinds, f_p2_sets, f_p2_weights, f_p2_stocks, f_p2_readers, f_p2_eighths, f_p2_wishes) hf hK hP hD hS dX7_tell_16
def wp_X11_tongue (N : Nat) (v_this_letters_many : Int32) (f_this_letters_signs : Nat → Int32) (v_this_now_tongue_words : Int32) (v_this_now_tongue_roads : Int32) (f_this_now_tongue_kinds : Nat → Int32) (f_this_now_tongue_sets : Nat → Int32) (f_this_now_tongue_weights : Nat → Int32) (f_this_now_tongue_stocks : Nat → Int32) (f_this_now_tongue_readers : Nat → Int32) (f_this_now_tongue_eighths : Nat → Int32) (f_this_now_tongue_wishes : Nat → Int32) (v_this_teller_read : Int32) (v_this_teller_reader : Int32) (v_this_teller_lead : Int32) (v_this_teller_place : Int32) (v_this_teller_draft_words : Int32) (v_this_teller_draft_roads : Int32) (f_this_teller_draft_kinds : Nat → Int32) (f_this_teller_draft_sets : Nat → Int32) (f_this_teller_draft_weights : Nat → Int32) (f_this_teller_draft_stocks : Nat → Int32) (f_this_teller_draft_readers : Nat → Int32) (f_this_teller_draft_eighths : Nat → Int32) (f_this_teller_draft_wishes : Nat → Int32) (f_this_teller_numbers : Nat → Int32) (v_this_surveys_sv0_known : Int32) (v_this_surveys_sv1_known : Int32) (v_this_surveys_sv2_known : Int32) (v_this_surveys_sv3_known : Int32) (v_this_surveys_sv4_known : Int32) (v_this_eachSearch_known : Int32) (v_this_wornSearch_known : Int32) (Φ : Int32 → Int32 → Int32 → Int32 → (Nat → Int32) → (Nat → Int32) → (Nat → Int32) → (Nat → Int32) → (Nat → Int32) → (Nat → Int32) → (Nat → Int32) → Int32 → Int32 → Int32 → Int32 → Int32 → Int32 → (Nat → Int32) → (Nat → Int32) → (Nat → Int32) → (Nat → Int32) → (Nat → Int32) → (Nat → Int32) → (Nat → Int32) → (Nat → Int32) → Int32 → Int32 → Int32 → Int32 → Int32 → Int32 → Int32 → Prop) : Prop := 
    wp_X7_tell N v_this_teller_read v_this_teller_reader v_this_teller_lead v_this_teller_place v_this_teller_draft_words v_this_teller_draft_roads f_this_teller_draft_kinds f_this_teller_draft_sets f_this_teller_draft_weights f_this_teller_draft_stocks f_this_teller_draft_readers f_this_teller_draft_eighths f_this_teller_draft_wishes f_this_teller_numbers v_this_letters_many f_this_letters_signs v_this_now_tongue_words v_this_now_tongue_roads f_this_now_tongue_kinds f_this_now_tongue_sets f_this_now_tongue_weights f_this_now_tongue_stocks f_this_now_tongue_readers f_this_now_tongue_eighths f_this_now_tongue_wishes (fun r1 o1_0 o1_1 o1_2 o1_3 o1_4 o1_5 o1_6 o1_7 o1_8 o1_9 o1_10 o1_11 o1_12 o1_13 o1_14 o1_15 o1_16 o1_17 o1_18 o1_19 o1_20 o1_21 o1_22 => 
     ((r1 ≤ 0 → Φ r1 0 o1_14 o1_15 o1_16 o1_17 o1_18 o1_19 o1_20 o1_21 o1_22 o1_0 o1_1 o1_2 o1_3 o1_4 o1_5 o1_6 o1_7 o1_8 o1_9 o1_10 o1_11 o1_12 o1_13 v_this_surveys_sv0_known v_this_surveys_sv1_known v_this_surveys_sv2_known v_this_surveys_sv3_known v_this_surveys_sv4_known v_this_eachSearch_known v_this_wornSearch_known) ∧
     (¬ (r1 ≤ 0) → wp_X11_forgetTongue N v_this_surveys_sv0_known v_this_surveys_sv1_known v_this_surveys_sv2_known v_this_surveys_sv3_known v_this_surveys_sv4_known v_this_eachSearch_known v_this_wornSearch_known (fun o3_0 o3_1 o3_2 o3_3 o3_4 o3_5 o3_6 => 
     Φ r1 0 o1_14 o1_15 o1_16 o1_17 o1_18 o1_19 o1_20 o1_21 o1_22 o1_0 o1_1 o1_2 o1_3 o1_4 o1_5 o1_6 o1_7 o1_8 o1_9 o1_10 o1_11 o1_12 o1_13 o3_0 o3_1 o3_2 o3_3 o3_4 o3_5 o3_6))))
abbrev zW_X11_tongue (cI cC cS : ClassId) (q_this : Nat) (q_this_letters : Nat) (q_this_letters_signs : Nat) (q_this_now : Nat) (q_this_now_tongue : Nat) (q_this_now_tongue_kinds : Nat) (q_this_now_tongue_sets : Nat) (q_this_now_tongue_weights : Nat) (q_this_now_tongue_stocks : Nat) (q_this_now_tongue_readers : Nat) (q_this_now_tongue_eighths : Nat) (q_this_now_tongue_wishes : Nat) (q_this_teller : Nat) (q_this_teller_draft : Nat) (q_this_teller_draft_kinds : Nat) (q_this_teller_draft_sets : Nat) (q_this_teller_draft_weights : Nat) (q_this_teller_draft_stocks : Nat) (q_this_teller_draft_readers : Nat) (q_this_teller_draft_eighths : Nat) (q_this_teller_draft_wishes : Nat) (q_this_teller_numbers : Nat) (q_this_surveys : Nat) (q_this_surveys_sv0 : Nat) (q_this_surveys_sv1 : Nat) (q_this_surveys_sv2 : Nat) (q_this_surveys_sv3 : Nat) (q_this_surveys_sv4 : Nat) (q_this_eachSearch : Nat) (q_this_wornSearch : Nat) (q_this_kept : Nat) (q_this_chain : Nat) (q_this_row : Nat) (q_this_tally : Nat) (q_this_refused : Nat) (q_this_now_ring : Nat) (q_this_now_pairs : Nat) (q_this_surveys_sv0_fewest : Nat) (q_this_surveys_sv0_firsts : Nat) (q_this_surveys_sv0_counts : Nat) (q_this_surveys_sv0_saidWithout : Nat) (q_this_surveys_sv0_row : Nat) (q_this_surveys_sv1_fewest : Nat) (q_this_surveys_sv1_firsts : Nat) (q_this_surveys_sv1_counts : Nat) (q_this_surveys_sv1_saidWithout : Nat) (q_this_surveys_sv1_row : Nat) (q_this_surveys_sv2_fewest : Nat) (q_this_surveys_sv2_firsts : Nat) (q_this_surveys_sv2_counts : Nat) (q_this_surveys_sv2_saidWithout : Nat) (q_this_surveys_sv2_row : Nat) (q_this_surveys_sv3_fewest : Nat) (q_this_surveys_sv3_firsts : Nat) (q_this_surveys_sv3_counts : Nat) (q_this_surveys_sv3_saidWithout : Nat) (q_this_surveys_sv3_row : Nat) (q_this_surveys_sv4_fewest : Nat) (q_this_surveys_sv4_firsts : Nat) (q_this_surveys_sv4_counts : Nat) (q_this_surveys_sv4_saidWithout : Nat) (q_this_surveys_sv4_row : Nat) (q_this_eachSearch_ring : Nat) (q_this_wornSearch_bestFill : Nat) (q_this_wornSearch_seen : Nat) (q_this_wornSearch_whole : Nat) (q_this_wornSearch_holes : Nat) (q_this_wornSearch_fill : Nat) (v_this_keeps : Int32) (v_this_letters_many : Int32) (f_this_letters_signs : Nat → Int32) (v_this_now_tongue_words : Int32) (v_this_now_tongue_roads : Int32) (f_this_now_tongue_kinds : Nat → Int32) (f_this_now_tongue_sets : Nat → Int32) (f_this_now_tongue_weights : Nat → Int32) (f_this_now_tongue_stocks : Nat → Int32) (f_this_now_tongue_readers : Nat → Int32) (f_this_now_tongue_eighths : Nat → Int32) (f_this_now_tongue_wishes : Nat → Int32) (v_this_teller_read : Int32) (v_this_teller_reader : Int32) (v_this_teller_lead : Int32) (v_this_teller_place : Int32) (v_this_teller_draft_words : Int32) (v_this_teller_draft_roads : Int32) (f_this_teller_draft_kinds : Nat → Int32) (f_this_teller_draft_sets : Nat → Int32) (f_this_teller_draft_weights : Nat → Int32) (f_this_teller_draft_stocks : Nat → Int32) (f_this_teller_draft_readers : Nat → Int32) (f_this_teller_draft_eighths : Nat → Int32) (f_this_teller_draft_wishes : Nat → Int32) (f_this_teller_numbers : Nat → Int32) (F_this_surveys : Nat → Option Nat) (v_this_surveys_sv0_kind : Int32) (v_this_surveys_sv0_known : Int32) (v_this_surveys_sv0_said : Int32) (v_this_surveys_sv1_kind : Int32) (v_this_surveys_sv1_known : Int32) (v_this_surveys_sv1_said : Int32) (v_this_surveys_sv2_kind : Int32) (v_this_surveys_sv2_known : Int32) (v_this_surveys_sv2_said : Int32) (v_this_surveys_sv3_kind : Int32) (v_this_surveys_sv3_known : Int32) (v_this_surveys_sv3_said : Int32) (v_this_surveys_sv4_kind : Int32) (v_this_surveys_sv4_known : Int32) (v_this_surveys_sv4_said : Int32) (v_this_eachSearch_known : Int32) (v_this_eachSearch_places : Int32) (v_this_wornSearch_known : Int32) (v_this_wornSearch_blanks : Int32) (v_this_wornSearch_many : Int32) (v_this_wornSearch_best : Int32) : va_W := [(q_this, .inr (10, [.ref q_this_letters, .ref q_this_now, .ref q_this_kept, .int v_this_keeps, .ref q_this_teller, .ref q_this_surveys, .ref q_this_eachSearch, .ref q_this_wornSearch, .ref q_this_chain, .ref q_this_row, .ref q_this_tally, .ref q_this_refused])),
  (q_this_letters, .inr (2, [.ref q_this_letters_signs, .int v_this_letters_many])),
  (q_this_letters_signs, .inl (cI, 64, .inl f_this_letters_signs)),
  (q_this_now, .inr (8, [.ref q_this_now_tongue, .ref q_this_now_ring, .ref q_this_now_pairs])),
  (q_this_now_tongue, .inr (7, [.ref q_this_now_tongue_kinds, .ref q_this_now_tongue_sets, .ref q_this_now_tongue_weights, .ref q_this_now_tongue_stocks, .int v_this_now_tongue_words, .ref q_this_now_tongue_readers, .ref q_this_now_tongue_eighths, .ref q_this_now_tongue_wishes, .int v_this_now_tongue_roads])),
  (q_this_now_tongue_kinds, .inl (cI, 6, .inl f_this_now_tongue_kinds)),
  (q_this_now_tongue_sets, .inl (cI, 6, .inl f_this_now_tongue_sets)),
  (q_this_now_tongue_weights, .inl (cI, 6, .inl f_this_now_tongue_weights)),
  (q_this_now_tongue_stocks, .inl (cI, 6, .inl f_this_now_tongue_stocks)),
  (q_this_now_tongue_readers, .inl (cI, 6, .inl f_this_now_tongue_readers)),
  (q_this_now_tongue_eighths, .inl (cI, 6, .inl f_this_now_tongue_eighths)),
  (q_this_now_tongue_wishes, .inl (cI, 6, .inl f_this_now_tongue_wishes)),
  (q_this_teller, .inr (6, [.ref q_this_teller_draft, .ref q_this_teller_numbers, .int v_this_teller_read, .int v_this_teller_reader, .int v_this_teller_lead, .int v_this_teller_place])),
  (q_this_teller_draft, .inr (7, [.ref q_this_teller_draft_kinds, .ref q_this_teller_draft_sets, .ref q_this_teller_draft_weights, .ref q_this_teller_draft_stocks, .int v_this_teller_draft_words, .ref q_this_teller_draft_readers, .ref q_this_teller_draft_eighths, .ref q_this_teller_draft_wishes, .int v_this_teller_draft_roads])),
  (q_this_teller_draft_kinds, .inl (cI, 6, .inl f_this_teller_draft_kinds)),
  (q_this_teller_draft_sets, .inl (cI, 6, .inl f_this_teller_draft_sets)),
  (q_this_teller_draft_weights, .inl (cI, 6, .inl f_this_teller_draft_weights)),
  (q_this_teller_draft_stocks, .inl (cI, 6, .inl f_this_teller_draft_stocks)),
  (q_this_teller_draft_readers, .inl (cI, 6, .inl f_this_teller_draft_readers)),
  (q_this_teller_draft_eighths, .inl (cI, 6, .inl f_this_teller_draft_eighths)),
  (q_this_teller_draft_wishes, .inl (cI, 6, .inl f_this_teller_draft_wishes)),
  (q_this_teller_numbers, .inl (cI, 2, .inl f_this_teller_numbers)),
  (q_this_surveys, .inl (cS, 5, .inr (.inr (.inr (.inr F_this_surveys))))),
  (q_this_surveys_sv0, .inr (5, [.int v_this_surveys_sv0_kind, .int v_this_surveys_sv0_known, .ref q_this_surveys_sv0_fewest, .ref q_this_surveys_sv0_firsts, .ref q_this_surveys_sv0_counts, .int v_this_surveys_sv0_said, .ref q_this_surveys_sv0_saidWithout, .ref q_this_surveys_sv0_row])),
  (q_this_surveys_sv1, .inr (5, [.int v_this_surveys_sv1_kind, .int v_this_surveys_sv1_known, .ref q_this_surveys_sv1_fewest, .ref q_this_surveys_sv1_firsts, .ref q_this_surveys_sv1_counts, .int v_this_surveys_sv1_said, .ref q_this_surveys_sv1_saidWithout, .ref q_this_surveys_sv1_row])),
  (q_this_surveys_sv2, .inr (5, [.int v_this_surveys_sv2_kind, .int v_this_surveys_sv2_known, .ref q_this_surveys_sv2_fewest, .ref q_this_surveys_sv2_firsts, .ref q_this_surveys_sv2_counts, .int v_this_surveys_sv2_said, .ref q_this_surveys_sv2_saidWithout, .ref q_this_surveys_sv2_row])),
  (q_this_surveys_sv3, .inr (5, [.int v_this_surveys_sv3_kind, .int v_this_surveys_sv3_known, .ref q_this_surveys_sv3_fewest, .ref q_this_surveys_sv3_firsts, .ref q_this_surveys_sv3_counts, .int v_this_surveys_sv3_said, .ref q_this_surveys_sv3_saidWithout, .ref q_this_surveys_sv3_row])),
  (q_this_surveys_sv4, .inr (5, [.int v_this_surveys_sv4_kind, .int v_this_surveys_sv4_known, .ref q_this_surveys_sv4_fewest, .ref q_this_surveys_sv4_firsts, .ref q_this_surveys_sv4_counts, .int v_this_surveys_sv4_said, .ref q_this_surveys_sv4_saidWithout, .ref q_this_surveys_sv4_row])),
  (q_this_eachSearch, .inr (1, [.int v_this_eachSearch_known, .int v_this_eachSearch_places, .ref q_this_eachSearch_ring])),
  (q_this_wornSearch, .inr (9, [.int v_this_wornSearch_known, .int v_this_wornSearch_blanks, .int v_this_wornSearch_many, .int v_this_wornSearch_best, .ref q_this_wornSearch_bestFill, .ref q_this_wornSearch_seen, .ref q_this_wornSearch_whole, .ref q_this_wornSearch_holes, .ref q_this_wornSearch_fill]))]
abbrev zr_X11_tongue : Room := { frames := 8, cells := 0, slots := 0, locals := 189 }
set_option maxHeartbeats 4000000 in
set_option maxRecDepth 100000 in
theorem c_X11_tongue (l : Launch) (dC : Nat → ClassId) (dI : Nat → Nat → Nat) (cI cC cS : ClassId) (adK adV : Nat → Nat) (fm : Value) (q_this : Nat) (q_this_letters : Nat) (q_this_letters_signs : Nat) (q_this_now : Nat) (q_this_now_tongue : Nat) (q_this_now_tongue_kinds : Nat) (q_this_now_tongue_sets : Nat) (q_this_now_tongue_weights : Nat) (q_this_now_tongue_stocks : Nat) (q_this_now_tongue_readers : Nat) (q_this_now_tongue_eighths : Nat) (q_this_now_tongue_wishes : Nat) (q_this_teller : Nat) (q_this_teller_draft : Nat) (q_this_teller_draft_kinds : Nat) (q_this_teller_draft_sets : Nat) (q_this_teller_draft_weights : Nat) (q_this_teller_draft_stocks : Nat) (q_this_teller_draft_readers : Nat) (q_this_teller_draft_eighths : Nat) (q_this_teller_draft_wishes : Nat) (q_this_teller_numbers : Nat) (q_this_surveys : Nat) (q_this_surveys_sv0 : Nat) (q_this_surveys_sv1 : Nat) (q_this_surveys_sv2 : Nat) (q_this_surveys_sv3 : Nat) (q_this_surveys_sv4 : Nat) (q_this_eachSearch : Nat) (q_this_wornSearch : Nat) (q_this_kept : Nat) (q_this_chain : Nat) (q_this_row : Nat) (q_this_tally : Nat) (q_this_refused : Nat) (q_this_now_ring : Nat) (q_this_now_pairs : Nat) (q_this_surveys_sv0_fewest : Nat) (q_this_surveys_sv0_firsts : Nat) (q_this_surveys_sv0_counts : Nat) (q_this_surveys_sv0_saidWithout : Nat) (q_this_surveys_sv0_row : Nat) (q_this_surveys_sv1_fewest : Nat) (q_this_surveys_sv1_firsts : Nat) (q_this_surveys_sv1_counts : Nat) (q_this_surveys_sv1_saidWithout : Nat) (q_this_surveys_sv1_row : Nat) (q_this_surveys_sv2_fewest : Nat) (q_this_surveys_sv2_firsts : Nat) (q_this_surveys_sv2_counts : Nat) (q_this_surveys_sv2_saidWithout : Nat) (q_this_surveys_sv2_row : Nat) (q_this_surveys_sv3_fewest : Nat) (q_this_surveys_sv3_firsts : Nat) (q_this_surveys_sv3_counts : Nat) (q_this_surveys_sv3_saidWithout : Nat) (q_this_surveys_sv3_row : Nat) (q_this_surveys_sv4_fewest : Nat) (q_this_surveys_sv4_firsts : Nat) (q_this_surveys_sv4_counts : Nat) (q_this_surveys_sv4_saidWithout : Nat) (q_this_surveys_sv4_row : Nat) (q_this_eachSearch_ring : Nat) (q_this_wornSearch_bestFill : Nat) (q_this_wornSearch_seen : Nat) (q_this_wornSearch_whole : Nat) (q_this_wornSearch_holes : Nat) (q_this_wornSearch_fill : Nat) (sz : Nat) (v_this_keeps : Int32) (v_this_letters_many : Int32) (f_this_letters_signs : Nat → Int32) (v_this_now_tongue_words : Int32) (v_this_now_tongue_roads : Int32) (f_this_now_tongue_kinds : Nat → Int32) (f_this_now_tongue_sets : Nat → Int32) (f_this_now_tongue_weights : Nat → Int32) (f_this_now_tongue_stocks : Nat → Int32) (f_this_now_tongue_readers : Nat → Int32) (f_this_now_tongue_eighths : Nat → Int32) (f_this_now_tongue_wishes : Nat → Int32) (v_this_teller_read : Int32) (v_this_teller_reader : Int32) (v_this_teller_lead : Int32) (v_this_teller_place : Int32) (v_this_teller_draft_words : Int32) (v_this_teller_draft_roads : Int32) (f_this_teller_draft_kinds : Nat → Int32) (f_this_teller_draft_sets : Nat → Int32) (f_this_teller_draft_weights : Nat → Int32) (f_this_teller_draft_stocks : Nat → Int32) (f_this_teller_draft_readers : Nat → Int32) (f_this_teller_draft_eighths : Nat → Int32) (f_this_teller_draft_wishes : Nat → Int32) (f_this_teller_numbers : Nat → Int32) (F_this_surveys : Nat → Option Nat) (v_this_surveys_sv0_kind : Int32) (v_this_surveys_sv0_known : Int32) (v_this_surveys_sv0_said : Int32) (v_this_surveys_sv1_kind : Int32) (v_this_surveys_sv1_known : Int32) (v_this_surveys_sv1_said : Int32) (v_this_surveys_sv2_kind : Int32) (v_this_surveys_sv2_known : Int32) (v_this_surveys_sv2_said : Int32) (v_this_surveys_sv3_kind : Int32) (v_this_surveys_sv3_known : Int32) (v_this_surveys_sv3_said : Int32) (v_this_surveys_sv4_kind : Int32) (v_this_surveys_sv4_known : Int32) (v_this_surveys_sv4_said : Int32) (v_this_eachSearch_known : Int32) (v_this_eachSearch_places : Int32) (v_this_wornSearch_known : Int32) (v_this_wornSearch_blanks : Int32) (v_this_wornSearch_many : Int32) (v_this_wornSearch_best : Int32) (N : Nat) (Φ : Int32 → Int32 → Int32 → Int32 → (Nat → Int32) → (Nat → Int32) → (Nat → Int32) → (Nat → Int32) → (Nat → Int32) → (Nat → Int32) → (Nat → Int32) → Int32 → Int32 → Int32 → Int32 → Int32 → Int32 → (Nat → Int32) → (Nat → Int32) → (Nat → Int32) → (Nat → Int32) → (Nat → Int32) → (Nat → Int32) → (Nat → Int32) → (Nat → Int32) → Int32 → Int32 → Int32 → Int32 → Int32 → Int32 → Int32 → Prop) (hF0 : F_this_surveys (Int32.toNatClampNeg 0) = some q_this_surveys_sv0) (hF1 : F_this_surveys (Int32.toNatClampNeg 1) = some q_this_surveys_sv1) (hF2 : F_this_surveys (Int32.toNatClampNeg 2) = some q_this_surveys_sv2) (hF3 : F_this_surveys (Int32.toNatClampNeg 3) = some q_this_surveys_sv3) (hF4 : F_this_surveys (Int32.toNatClampNeg 4) = some q_this_surveys_sv4) (hf : wp_X11_tongue N v_this_letters_many f_this_letters_signs v_this_now_tongue_words v_this_now_tongue_roads f_this_now_tongue_kinds f_this_now_tongue_sets f_this_now_tongue_weights f_this_now_tongue_stocks f_this_now_tongue_readers f_this_now_tongue_eighths f_this_now_tongue_wishes v_this_teller_read v_this_teller_reader v_this_teller_lead v_this_teller_place v_this_teller_draft_words v_this_teller_draft_roads f_this_teller_draft_kinds f_this_teller_draft_sets f_this_teller_draft_weights f_this_teller_draft_stocks f_this_teller_draft_readers f_this_teller_draft_eighths f_this_teller_draft_wishes f_this_teller_numbers v_this_surveys_sv0_known v_this_surveys_sv1_known v_this_surveys_sv2_known v_this_surveys_sv3_known v_this_surveys_sv4_known v_this_eachSearch_known v_this_wornSearch_known Φ) : Met l yX11_tongue wsX11_tongue zr_X11_tongue (zPcS (dC, dI) (zT cI cC cS) adK adV fm [.ref q_this] sz (zW_X11_tongue cI cC cS q_this q_this_letters q_this_letters_signs q_this_now q_this_now_tongue q_this_now_tongue_kinds q_this_now_tongue_sets q_this_now_tongue_weights q_this_now_tongue_stocks q_this_now_tongue_readers q_this_now_tongue_eighths q_this_now_tongue_wishes q_this_teller q_this_teller_draft q_this_teller_draft_kinds q_this_teller_draft_sets q_this_teller_draft_weights q_this_teller_draft_stocks q_this_teller_draft_readers q_this_teller_draft_eighths q_this_teller_draft_wishes q_this_teller_numbers q_this_surveys q_this_surveys_sv0 q_this_surveys_sv1 q_this_surveys_sv2 q_this_surveys_sv3 q_this_surveys_sv4 q_this_eachSearch q_this_wornSearch q_this_kept q_this_chain q_this_row q_this_tally q_this_refused q_this_now_ring q_this_now_pairs q_this_surveys_sv0_fewest q_this_surveys_sv0_firsts q_this_surveys_sv0_counts q_this_surveys_sv0_saidWithout q_this_surveys_sv0_row q_this_surveys_sv1_fewest q_this_surveys_sv1_firsts q_this_surveys_sv1_counts q_this_surveys_sv1_saidWithout q_this_surveys_sv1_row q_this_surveys_sv2_fewest q_this_surveys_sv2_firsts q_this_surveys_sv2_counts q_this_surveys_sv2_saidWithout q_this_surveys_sv2_row q_this_surveys_sv3_fewest q_this_surveys_sv3_firsts q_this_surveys_sv3_counts q_this_surveys_sv3_saidWithout q_this_surveys_sv3_row q_this_surveys_sv4_fewest q_this_surveys_sv4_firsts q_this_surveys_sv4_counts q_this_surveys_sv4_saidWithout q_this_surveys_sv4_row q_this_eachSearch_ring q_this_wornSearch_bestFill q_this_wornSearch_seen q_this_wornSearch_whole q_this_wornSearch_holes q_this_wornSearch_fill v_this_keeps v_this_letters_many f_this_letters_signs v_this_now_tongue_words v_this_now_tongue_roads f_this_now_tongue_kinds f_this_now_tongue_sets f_this_now_tongue_weights f_this_now_tongue_stocks f_this_now_tongue_readers f_this_now_tongue_eighths f_this_now_tongue_wishes v_this_teller_read v_this_teller_reader v_this_teller_lead v_this_teller_place v_this_teller_draft_words v_this_teller_draft_roads f_this_teller_draft_kinds f_this_teller_draft_sets f_this_teller_draft_weights f_this_teller_draft_stocks f_this_teller_draft_readers f_this_teller_draft_eighths f_this_teller_draft_wishes f_this_teller_numbers F_this_surveys v_this_surveys_sv0_kind v_this_surveys_sv0_known v_this_surveys_sv0_said v_this_surveys_sv1_kind v_this_surveys_sv1_known v_this_surveys_sv1_said v_this_surveys_sv2_kind v_this_surveys_sv2_known v_this_surveys_sv2_said v_this_surveys_sv3_kind v_this_surveys_sv3_known v_this_surveys_sv3_said v_this_surveys_sv4_kind v_this_surveys_sv4_known v_this_surveys_sv4_said v_this_eachSearch_known v_this_eachSearch_places v_this_wornSearch_known v_this_wornSearch_blanks v_this_wornSearch_many v_this_wornSearch_best)) (zQi (dC, dI) (zT cI cC cS) (va_A (zW_X11_tongue cI cC cS q_this q_this_letters q_this_letters_signs q_this_now q_this_now_tongue q_this_now_tongue_kinds q_this_now_tongue_sets q_this_now_tongue_weights q_this_now_tongue_stocks q_this_now_tongue_readers q_this_now_tongue_eighths q_this_now_tongue_wishes q_this_teller q_this_teller_draft q_this_teller_draft_kinds q_this_teller_draft_sets q_this_teller_draft_weights q_this_teller_draft_stocks q_this_teller_draft_readers q_this_teller_draft_eighths q_this_teller_draft_wishes q_this_teller_numbers q_this_surveys q_this_surveys_sv0 q_this_surveys_sv1 q_this_surveys_sv2 q_this_surveys_sv3 q_this_surveys_sv4 q_this_eachSearch q_this_wornSearch q_this_kept q_this_chain q_this_row q_this_tally q_this_refused q_this_now_ring q_this_now_pairs q_this_surveys_sv0_fewest q_this_surveys_sv0_firsts q_this_surveys_sv0_counts q_this_surveys_sv0_saidWithout q_this_surveys_sv0_row q_this_surveys_sv1_fewest q_this_surveys_sv1_firsts q_this_surveys_sv1_counts q_this_surveys_sv1_saidWithout q_this_surveys_sv1_row q_this_surveys_sv2_fewest q_this_surveys_sv2_firsts q_this_surveys_sv2_counts q_this_surveys_sv2_saidWithout q_this_surveys_sv2_row q_this_surveys_sv3_fewest q_this_surveys_sv3_firsts q_this_surveys_sv3_counts q_this_surveys_sv3_saidWithout q_this_surveys_sv3_row q_this_surveys_sv4_fewest q_this_surveys_sv4_firsts q_this_surveys_sv4_counts q_this_surveys_sv4_saidWithout q_this_surveys_sv4_row q_this_eachSearch_ring q_this_wornSearch_bestFill q_this_wornSearch_seen q_this_wornSearch_whole q_this_wornSearch_holes q_this_wornSearch_fill v_this_keeps v_this_letters_many f_this_letters_signs v_this_now_tongue_words v_this_now_tongue_roads f_this_now_tongue_kinds f_this_now_tongue_sets f_this_now_tongue_weights f_this_now_tongue_stocks f_this_now_tongue_readers f_this_now_tongue_eighths f_this_now_tongue_wishes v_this_teller_read v_this_teller_reader v_this_teller_lead v_this_teller_place v_this_teller_draft_words v_this_teller_draft_roads f_this_teller_draft_kinds f_this_teller_draft_sets f_this_teller_draft_weights f_this_teller_draft_stocks f_this_teller_draft_readers f_this_teller_draft_eighths f_this_teller_draft_wishes f_this_teller_numbers F_this_surveys v_this_surveys_sv0_kind v_this_surveys_sv0_known v_this_surveys_sv0_said v_this_surveys_sv1_kind v_this_surveys_sv1_known v_this_surveys_sv1_said v_this_surveys_sv2_kind v_this_surveys_sv2_known v_this_surveys_sv2_said v_this_surveys_sv3_kind v_this_surveys_sv3_known v_this_surveys_sv3_said v_this_surveys_sv4_kind v_this_surveys_sv4_known v_this_surveys_sv4_said v_this_eachSearch_known v_this_eachSearch_places v_this_wornSearch_known v_this_wornSearch_blanks v_this_wornSearch_many v_this_wornSearch_best) sz) (fun (r : Int32) (u : (Int32) × (Int32) × (Int32) × (Nat → Int32) × (Nat → Int32) × (Nat → Int32) × (Nat → Int32) × (Nat → Int32) × (Nat → Int32) × (Nat → Int32) × (Int32) × (Int32) × (Int32) × (Int32) × (Int32) × (Int32) × (Nat → Int32) × (Nat → Int32) × (Nat → Int32) × (Nat → Int32) × (Nat → Int32) × (Nat → Int32) × (Nat → Int32) × (Nat → Int32) × (Int32) × (Int32) × (Int32) × (Int32) × (Int32) × (Int32) × (Int32)) => Φ r u.1 u.2.1 u.2.2.1 u.2.2.2.1 u.2.2.2.2.1 u.2.2.2.2.2.1 u.2.2.2.2.2.2.1 u.2.2.2.2.2.2.2.1 u.2.2.2.2.2.2.2.2.1 u.2.2.2.2.2.2.2.2.2.1 u.2.2.2.2.2.2.2.2.2.2.1 u.2.2.2.2.2.2.2.2.2.2.2.1 u.2.2.2.2.2.2.2.2.2.2.2.2.1 u.2.2.2.2.2.2.2.2.2.2.2.2.2.1 u.2.2.2.2.2.2.2.2.2.2.2.2.2.2.1 u.2.2.2.2.2.2.2.2.2.2.2.2.2.2.2.1 u.2.2.2.2.2.2.2.2.2.2.2.2.2.2.2.2.1 u.2.2.2.2.2.2.2.2.2.2.2.2.2.2.2.2.2.1 u.2.2.2.2.2.2.2.2.2.2.2.2.2.2.2.2.2.2.1 u.2.2.2.2.2.2.2.2.2.2.2.2.2.2.2.2.2.2.2.1 u.2.2.2.2.2.2.2.2.2.2.2.2.2.2.2.2.2.2.2.2.1 u.2.2.2.2.2.2.2.2.2.2.2.2.2.2.2.2.2.2.2.2.2.1 u.2.2.2.2.2.2.2.2.2.2.2.2.2.2.2.2.2.2.2.2.2.2.1 u.2.2.2.2.2.2.2.2.2.2.2.2.2.2.2.2.2.2.2.2.2.2.2.1 u.2.2.2.2.2.2.2.2.2.2.2.2.2.2.2.2.2.2.2.2.2.2.2.2.1 u.2.2.2.2.2.2.2.2.2.2.2.2.2.2.2.2.2.2.2.2.2.2.2.2.2.1 u.2.2.2.2.2.2.2.2.2.2.2.2.2.2.2.2.2.2.2.2.2.2.2.2.2.2.1 u.2.2.2.2.2.2.2.2.2.2.2.2.2.2.2.2.2.2.2.2.2.2.2.2.2.2.2.1 u.2.2.2.2.2.2.2.2.2.2.2.2.2.2.2.2.2.2.2.2.2.2.2.2.2.2.2.2.1 u.2.2.2.2.2.2.2.2.2.2.2.2.2.2.2.2.2.2.2.2.2.2.2.2.2.2.2.2.2.1 u.2.2.2.2.2.2.2.2.2.2.2.2.2.2.2.2.2.2.2.2.2.2.2.2.2.2.2.2.2.2) (fun u => (zW_X11_tongue cI cC cS q_this q_this_letters q_this_letters_signs q_this_now q_this_now_tongue q_this_now_tongue_kinds q_this_now_tongue_sets q_this_now_tongue_weights q_this_now_tongue_stocks q_this_now_tongue_readers q_this_now_tongue_eighths q_this_now_tongue_wishes q_this_teller q_this_teller_draft q_this_teller_draft_kinds q_this_teller_draft_sets q_this_teller_draft_weights q_this_teller_draft_stocks q_this_teller_draft_readers q_this_teller_draft_eighths q_this_teller_draft_wishes q_this_teller_numbers q_this_surveys q_this_surveys_sv0 q_this_surveys_sv1 q_this_surveys_sv2 q_this_surveys_sv3 q_this_surveys_sv4 q_this_eachSearch q_this_wornSearch q_this_kept q_this_chain q_this_row q_this_tally q_this_refused q_this_now_ring q_this_now_pairs q_this_surveys_sv0_fewest q_this_surveys_sv0_firsts q_this_surveys_sv0_counts q_this_surveys_sv0_saidWithout q_this_surveys_sv0_row q_this_surveys_sv1_fewest q_this_surveys_sv1_firsts q_this_surveys_sv1_counts q_this_surveys_sv1_saidWithout q_this_surveys_sv1_row q_this_surveys_sv2_fewest q_this_surveys_sv2_firsts q_this_surveys_sv2_counts q_this_surveys_sv2_saidWithout q_this_surveys_sv2_row q_this_surveys_sv3_fewest q_this_surveys_sv3_firsts q_this_surveys_sv3_counts q_this_surveys_sv3_saidWithout q_this_surveys_sv3_row q_this_surveys_sv4_fewest q_this_surveys_sv4_firsts q_this_surveys_sv4_counts q_this_surveys_sv4_saidWithout q_this_surveys_sv4_row q_this_eachSearch_ring q_this_wornSearch_bestFill q_this_wornSearch_seen q_this_wornSearch_whole q_this_wornSearch_holes q_this_wornSearch_fill v_this_keeps u.1 f_this_letters_signs u.2.1 u.2.2.1 u.2.2.2.1 u.2.2.2.2.1 u.2.2.2.2.2.1 u.2.2.2.2.2.2.1 u.2.2.2.2.2.2.2.1 u.2.2.2.2.2.2.2.2.1 u.2.2.2.2.2.2.2.2.2.1 u.2.2.2.2.2.2.2.2.2.2.1 u.2.2.2.2.2.2.2.2.2.2.2.1 u.2.2.2.2.2.2.2.2.2.2.2.2.1 u.2.2.2.2.2.2.2.2.2.2.2.2.2.1 u.2.2.2.2.2.2.2.2.2.2.2.2.2.2.1 u.2.2.2.2.2.2.2.2.2.2.2.2.2.2.2.1 u.2.2.2.2.2.2.2.2.2.2.2.2.2.2.2.2.1 u.2.2.2.2.2.2.2.2.2.2.2.2.2.2.2.2.2.1 u.2.2.2.2.2.2.2.2.2.2.2.2.2.2.2.2.2.2.1 u.2.2.2.2.2.2.2.2.2.2.2.2.2.2.2.2.2.2.2.1 u.2.2.2.2.2.2.2.2.2.2.2.2.2.2.2.2.2.2.2.2.1 u.2.2.2.2.2.2.2.2.2.2.2.2.2.2.2.2.2.2.2.2.2.1 u.2.2.2.2.2.2.2.2.2.2.2.2.2.2.2.2.2.2.2.2.2.2.1 u.2.2.2.2.2.2.2.2.2.2.2.2.2.2.2.2.2.2.2.2.2.2.2.1 F_this_surveys v_this_surveys_sv0_kind u.2.2.2.2.2.2.2.2.2.2.2.2.2.2.2.2.2.2.2.2.2.2.2.2.1 v_this_surveys_sv0_said v_this_surveys_sv1_kind u.2.2.2.2.2.2.2.2.2.2.2.2.2.2.2.2.2.2.2.2.2.2.2.2.2.1 v_this_surveys_sv1_said v_this_surveys_sv2_kind u.2.2.2.2.2.2.2.2.2.2.2.2.2.2.2.2.2.2.2.2.2.2.2.2.2.2.1 v_this_surveys_sv2_said v_this_surveys_sv3_kind u.2.2.2.2.2.2.2.2.2.2.2.2.2.2.2.2.2.2.2.2.2.2.2.2.2.2.2.1 v_this_surveys_sv3_said v_this_surveys_sv4_kind u.2.2.2.2.2.2.2.2.2.2.2.2.2.2.2.2.2.2.2.2.2.2.2.2.2.2.2.2.1 v_this_surveys_sv4_said u.2.2.2.2.2.2.2.2.2.2.2.2.2.2.2.2.2.2.2.2.2.2.2.2.2.2.2.2.2.1 v_this_eachSearch_places u.2.2.2.2.2.2.2.2.2.2.2.2.2.2.2.2.2.2.2.2.2.2.2.2.2.2.2.2.2.2 v_this_wornSearch_blanks v_this_wornSearch_many v_this_wornSearch_best))) 0 0 (va_A (zW_X11_tongue cI cC cS q_this q_this_letters q_this_letters_signs q_this_now q_this_now_tongue q_this_now_tongue_kinds q_this_now_tongue_sets q_this_now_tongue_weights q_this_now_tongue_stocks q_this_now_tongue_readers q_this_now_tongue_eighths q_this_now_tongue_wishes q_this_teller q_this_teller_draft q_this_teller_draft_kinds q_this_teller_draft_sets q_this_teller_draft_weights q_this_teller_draft_stocks q_this_teller_draft_readers q_this_teller_draft_eighths q_this_teller_draft_wishes q_this_teller_numbers q_this_surveys q_this_surveys_sv0 q_this_surveys_sv1 q_this_surveys_sv2 q_this_surveys_sv3 q_this_surveys_sv4 q_this_eachSearch q_this_wornSearch q_this_kept q_this_chain q_this_row q_this_tally q_this_refused q_this_now_ring q_this_now_pairs q_this_surveys_sv0_fewest q_this_surveys_sv0_firsts q_this_surveys_sv0_counts q_this_surveys_sv0_saidWithout q_this_surveys_sv0_row q_this_surveys_sv1_fewest q_this_surveys_sv1_firsts q_this_surveys_sv1_counts q_this_surveys_sv1_saidWithout q_this_surveys_sv1_row q_this_surveys_sv2_fewest q_this_surveys_sv2_firsts q_this_surveys_sv2_counts q_this_surveys_sv2_saidWithout q_this_surveys_sv2_row q_this_surveys_sv3_fewest q_this_surveys_sv3_firsts q_this_surveys_sv3_counts q_this_surveys_sv3_saidWithout q_this_surveys_sv3_row q_this_surveys_sv4_fewest q_this_surveys_sv4_firsts q_this_surveys_sv4_counts q_this_surveys_sv4_saidWithout q_this_surveys_sv4_row q_this_eachSearch_ring q_this_wornSearch_bestFill q_this_wornSearch_seen q_this_wornSearch_whole q_this_wornSearch_holes q_this_wornSearch_fill v_this_keeps v_this_letters_many f_this_letters_signs v_this_now_tongue_words v_this_now_tongue_roads f_this_now_tongue_kinds f_this_now_tongue_sets f_this_now_tongue_weights f_this_now_tongue_stocks f_this_now_tongue_readers f_this_now_tongue_eighths f_this_now_tongue_wishes v_this_teller_read v_this_teller_reader v_this_teller_lead v_this_teller_place v_this_teller_draft_words v_this_teller_draft_roads f_this_teller_draft_kinds f_this_teller_draft_sets f_this_teller_draft_weights f_this_teller_draft_stocks f_this_teller_draft_readers f_this_teller_draft_eighths f_this_teller_draft_wishes f_this_teller_numbers F_this_surveys v_this_surveys_sv0_kind v_this_surveys_sv0_known v_this_surveys_sv0_said v_this_surveys_sv1_kind v_this_surveys_sv1_known v_this_surveys_sv1_said v_this_surveys_sv2_kind v_this_surveys_sv2_known v_this_surveys_sv2_said v_this_surveys_sv3_kind v_this_surveys_sv3_known v_this_surveys_sv3_said v_this_surveys_sv4_kind v_this_surveys_sv4_known v_this_surveys_sv4_said v_this_eachSearch_known v_this_eachSearch_places v_this_wornSearch_known v_this_wornSearch_blanks v_this_wornSearch_many v_this_wornSearch_best) sz) := by
  refine Met.ofW (cc := cX11_tongue) (maxL := 2) (ret := (some .int)) (by decide) rfl ?_
  intro p e s m args below meth c s₁ B hml hv
  obtain ⟨rfl, hsz, hP, hK, hD0, hZ⟩ := hv
  have hx := B.exec
  have hb := B.bytes
  have hr := B.returns
  have hts := atoms_spec (ws := wsX11_tongue) B.pre
  have hown : s.vm.findClass RX11 = some m.cls := findClass_of_methodNamed B.named
  have hlocks := B.notSynchronized
  subst hsz
  have hD := hD0.self (sz := s.heap.size)
  have hA : ∀ q : Nat, s.heap.size ≤ q → va_A (zW_X11_tongue cI cC cS q_this q_this_letters q_this_letters_signs q_this_now q_this_now_tongue q_this_now_tongue_kinds q_this_now_tongue_sets q_this_now_tongue_weights q_this_now_tongue_stocks q_this_now_tongue_readers q_this_now_tongue_eighths q_this_now_tongue_wishes q_this_teller q_this_teller_draft q_this_teller_draft_kinds q_this_teller_draft_sets q_this_teller_draft_weights q_this_teller_draft_stocks q_this_teller_draft_readers q_this_teller_draft_eighths q_this_teller_draft_wishes q_this_teller_numbers q_this_surveys q_this_surveys_sv0 q_this_surveys_sv1 q_this_surveys_sv2 q_this_surveys_sv3 q_this_surveys_sv4 q_this_eachSearch q_this_wornSearch q_this_kept q_this_chain q_this_row q_this_tally q_this_refused q_this_now_ring q_this_now_pairs q_this_surveys_sv0_fewest q_this_surveys_sv0_firsts q_this_surveys_sv0_counts q_this_surveys_sv0_saidWithout q_this_surveys_sv0_row q_this_surveys_sv1_fewest q_this_surveys_sv1_firsts q_this_surveys_sv1_counts q_this_surveys_sv1_saidWithout q_this_surveys_sv1_row q_this_surveys_sv2_fewest q_this_surveys_sv2_firsts q_this_surveys_sv2_counts q_this_surveys_sv2_saidWithout q_this_surveys_sv2_row q_this_surveys_sv3_fewest q_this_surveys_sv3_firsts q_this_surveys_sv3_counts q_this_surveys_sv3_saidWithout q_this_surveys_sv3_row q_this_surveys_sv4_fewest q_this_surveys_sv4_firsts q_this_surveys_sv4_counts q_this_surveys_sv4_saidWithout q_this_surveys_sv4_row q_this_eachSearch_ring q_this_wornSearch_bestFill q_this_wornSearch_seen q_this_wornSearch_whole q_this_wornSearch_holes q_this_wornSearch_fill v_this_keeps v_this_letters_many f_this_letters_signs v_this_now_tongue_words v_this_now_tongue_roads f_this_now_tongue_kinds f_this_now_tongue_sets f_this_now_tongue_weights f_this_now_tongue_stocks f_this_now_tongue_readers f_this_now_tongue_eighths f_this_now_tongue_wishes v_this_teller_read v_this_teller_reader v_this_teller_lead v_this_teller_place v_this_teller_draft_words v_this_teller_draft_roads f_this_teller_draft_kinds f_this_teller_draft_sets f_this_teller_draft_weights f_this_teller_draft_stocks f_this_teller_draft_readers f_this_teller_draft_eighths f_this_teller_draft_wishes f_this_teller_numbers F_this_surveys v_this_surveys_sv0_kind v_this_surveys_sv0_known v_this_surveys_sv0_said v_this_surveys_sv1_kind v_this_surveys_sv1_known v_this_surveys_sv1_said v_this_surveys_sv2_kind v_this_surveys_sv2_known v_this_surveys_sv2_said v_this_surveys_sv3_kind v_this_surveys_sv3_known v_this_surveys_sv3_said v_this_surveys_sv4_kind v_this_surveys_sv4_known v_this_surveys_sv4_said v_this_eachSearch_known v_this_eachSearch_places v_this_wornSearch_known v_this_wornSearch_blanks v_this_wornSearch_many v_this_wornSearch_best) s.heap.size q := fun q h => Or.inr h
  generalize va_A (zW_X11_tongue cI cC cS q_this q_this_letters q_this_letters_signs q_this_now q_this_now_tongue q_this_now_tongue_kinds q_this_now_tongue_sets q_this_now_tongue_weights q_this_now_tongue_stocks q_this_now_tongue_readers q_this_now_tongue_eighths q_this_now_tongue_wishes q_this_teller q_this_teller_draft q_this_teller_draft_kinds q_this_teller_draft_sets q_this_teller_draft_weights q_this_teller_draft_stocks q_this_teller_draft_readers q_this_teller_draft_eighths q_this_teller_draft_wishes q_this_teller_numbers q_this_surveys q_this_surveys_sv0 q_this_surveys_sv1 q_this_surveys_sv2 q_this_surveys_sv3 q_this_surveys_sv4 q_this_eachSearch q_this_wornSearch q_this_kept q_this_chain q_this_row q_this_tally q_this_refused q_this_now_ring q_this_now_pairs q_this_surveys_sv0_fewest q_this_surveys_sv0_firsts q_this_surveys_sv0_counts q_this_surveys_sv0_saidWithout q_this_surveys_sv0_row q_this_surveys_sv1_fewest q_this_surveys_sv1_firsts q_this_surveys_sv1_counts q_this_surveys_sv1_saidWithout q_this_surveys_sv1_row q_this_surveys_sv2_fewest q_this_surveys_sv2_firsts q_this_surveys_sv2_counts q_this_surveys_sv2_saidWithout q_this_surveys_sv2_row q_this_surveys_sv3_fewest q_this_surveys_sv3_firsts q_this_surveys_sv3_counts q_this_surveys_sv3_saidWithout q_this_surveys_sv3_row q_this_surveys_sv4_fewest q_this_surveys_sv4_firsts q_this_surveys_sv4_counts q_this_surveys_sv4_saidWithout q_this_surveys_sv4_row q_this_eachSearch_ring q_this_wornSearch_bestFill q_this_wornSearch_seen q_this_wornSearch_whole q_this_wornSearch_holes q_this_wornSearch_fill v_this_keeps v_this_letters_many f_this_letters_signs v_this_now_tongue_words v_this_now_tongue_roads f_this_now_tongue_kinds f_this_now_tongue_sets f_this_now_tongue_weights f_this_now_tongue_stocks f_this_now_tongue_readers f_this_now_tongue_eighths f_this_now_tongue_wishes v_this_teller_read v_this_teller_reader v_this_teller_lead v_this_teller_place v_this_teller_draft_words v_this_teller_draft_roads f_this_teller_draft_kinds f_this_teller_draft_sets f_this_teller_draft_weights f_this_teller_draft_stocks f_this_teller_draft_readers f_this_teller_draft_eighths f_this_teller_draft_wishes f_this_teller_numbers F_this_surveys v_this_surveys_sv0_kind v_this_surveys_sv0_known v_this_surveys_sv0_said v_this_surveys_sv1_kind v_this_surveys_sv1_known v_this_surveys_sv1_said v_this_surveys_sv2_kind v_this_surveys_sv2_known v_this_surveys_sv2_said v_this_surveys_sv3_kind v_this_surveys_sv3_known v_this_surveys_sv3_said v_this_surveys_sv4_kind v_this_surveys_sv4_known v_this_surveys_sv4_said v_this_eachSearch_known v_this_eachSearch_places v_this_wornSearch_known v_this_wornSearch_blanks v_this_wornSearch_many v_this_wornSearch_best) s.heap.size = A at hD hA hZ ⊢
  have hS : va_S A s.heap s.heap [] := va_S.rf
  have hl := lv_entry ([.ref q_this]) (n := 2) (Nat.le_of_ble_eq_true rfl)
  rw [lg_entry_eq]
  generalize (lg_sl ([.ref q_this]) ++ List.replicate (2 - (lg_sl ([.ref q_this])).length) Slot.unset).toArray = ls at hl ⊢
  have hl : lv_has ls 2 [(0, .ref q_this)] := hl
  have lk1 := hts (.fieldLink RX11 33 "ReadFromAnywhere" "teller" "LReadFromAnywhere$Teller;") (List.mem_of_getElem? (i := 1) rfl)
  have inX11 : ∀ w ∈ u_ws RX11 TX11 12, w ∈ wsX11_tongue := fun _ h => List.mem_cons_of_mem _ (List.mem_append_left _ (List.mem_append_left _ (List.mem_append_left _ (List.mem_append_left _ (List.mem_append_left _ (List.mem_append_left _ (List.mem_append_left _ (List.mem_append_right _ h))))))))
  have lk2 := hts (.fieldLink RX11 10 "ReadFromAnywhere" "letters" "LReadFromAnywhere$Letters;") (List.mem_of_getElem? (i := 2) rfl)
  have lk3 := hts (.fieldLink RX11 19 "ReadFromAnywhere" "now" "LReadFromAnywhere$World;") (List.mem_of_getElem? (i := 3) rfl)
  have lk4 := hts (.fieldLink RX11 88 "ReadFromAnywhere$World" "tongue" "LReadFromAnywhere$Tongue;") (List.mem_of_getElem? (i := 4) rfl)
  have inX9 : ∀ w ∈ u_ws RX9 TX9 3, w ∈ wsX11_tongue := fun _ h => List.mem_cons_of_mem _ (List.mem_append_left _ (List.mem_append_left _ (List.mem_append_left _ (List.mem_append_left _ (List.mem_append_left _ (List.mem_append_left _ (List.mem_append_right _ h)))))))
  have lk5 := hts (.fieldLink RX11 81 "ReadFromAnywhere$Letters" "many" "I") (List.mem_of_getElem? (i := 5) rfl)
  have inX2 : ∀ w ∈ u_ws RX2 TX2 2, w ∈ wsX11_tongue := fun _ h => List.mem_cons_of_mem _ (List.mem_append_left _ (List.mem_append_left _ (List.mem_append_left _ (List.mem_append_left _ (List.mem_append_left _ (List.mem_append_right _ h))))))
  unfold wp_X11_tongue at hf
  refine lv_aload_n hx hb dX11_tongue_0 rfl (lv_at hl 0 rfl) ?_
  refine va_get (D := (dC, dI)) (ci := 10) (v := .ref q_this_teller) (C := RX11) (T := TX11) (N := 12) hx hb hts inX11 hown hK hP 0 rfl rfl 4 (by decide) lk1 (fun _ h9 => h9) rfl dX11_tongue_1 ?_
  refine lv_aload_n hx hb dX11_tongue_4 rfl (lv_at hl 0 rfl) ?_
  refine va_get (D := (dC, dI)) (ci := 10) (v := .ref q_this_letters) (C := RX11) (T := TX11) (N := 12) hx hb hts inX11 hown hK hP 0 rfl rfl 0 (by decide) lk2 (fun _ h9 => h9) rfl dX11_tongue_5 ?_
  refine lv_aload_n hx hb dX11_tongue_8 rfl (lv_at hl 0 rfl) ?_
  refine va_get (D := (dC, dI)) (ci := 10) (v := .ref q_this_now) (C := RX11) (T := TX11) (N := 12) hx hb hts inX11 hown hK hP 0 rfl rfl 1 (by decide) lk3 (fun _ h9 => h9) rfl dX11_tongue_9 ?_
  refine va_get (D := (dC, dI)) (ci := 8) (v := .ref q_this_now_tongue) (C := RX9) (T := TX9) (N := 3) hx hb hts inX9 hown hK hP 3 rfl rfl 0 (by decide) lk4 (fun _ h9 => h9) rfl dX11_tongue_12 ?_
  refine zs_Vi (n := 2) (As := [.ref q_this_letters, .ref q_this_now_tongue]) (rest := []) ⟨hx, hb, hml, hown, hts⟩ (c_X7_tell l dC dI cI cC cS adK adV fm q_this_teller q_this_teller_draft q_this_teller_draft_kinds q_this_teller_draft_sets q_this_teller_draft_weights q_this_teller_draft_stocks q_this_teller_draft_readers q_this_teller_draft_eighths q_this_teller_draft_wishes q_this_teller_numbers q_this_letters q_this_letters_signs q_this_now_tongue q_this_now_tongue_kinds q_this_now_tongue_sets q_this_now_tongue_weights q_this_now_tongue_stocks q_this_now_tongue_readers q_this_now_tongue_eighths q_this_now_tongue_wishes _ v_this_teller_read v_this_teller_reader v_this_teller_lead v_this_teller_place v_this_teller_draft_words v_this_teller_draft_roads f_this_teller_draft_kinds f_this_teller_draft_sets f_this_teller_draft_weights f_this_teller_draft_stocks f_this_teller_draft_readers f_this_teller_draft_eighths f_this_teller_draft_wishes f_this_teller_numbers v_this_letters_many f_this_letters_signs v_this_now_tongue_words v_this_now_tongue_roads f_this_now_tongue_kinds f_this_now_tongue_sets f_this_now_tongue_weights f_this_now_tongue_stocks f_this_now_tongue_readers f_this_now_tongue_eighths f_this_now_tongue_wishes  N _  hf) gX11_tongue_X7_tell rfl rfl rfl (by decide +kernel) ⟨Nat.le_of_ble_eq_true rfl, Nat.le_of_ble_eq_true rfl⟩ hK hP hD hS hA hZ (va_recv hK hP (ci := 6) (q0 := 12) rfl rfl) rfl hl.1 rfl (Nat.le_of_ble_eq_true rfl) dX11_tongue_15 ⟨Nat.zero_le _, Nat.zero_le _⟩ [12, 13, 14, 15, 16, 17, 18, 19, 20, 21, 1, 2, 4, 5, 6, 7, 8, 9, 10, 11] [0, 3, 22, 23, 24, 25, 26, 27, 28, 29] (([(q_this, .inr (10, [.ref q_this_letters, .ref q_this_now, .ref q_this_kept, .int v_this_keeps, .ref q_this_teller, .ref q_this_surveys, .ref q_this_eachSearch, .ref q_this_wornSearch, .ref q_this_chain, .ref q_this_row, .ref q_this_tally, .ref q_this_refused])), (q_this_now, .inr (8, [.ref q_this_now_tongue, .ref q_this_now_ring, .ref q_this_now_pairs])), (q_this_surveys, .inl (cS, 5, .inr (.inr (.inr (.inr F_this_surveys))))), (q_this_surveys_sv0, .inr (5, [.int v_this_surveys_sv0_kind, .int v_this_surveys_sv0_known, .ref q_this_surveys_sv0_fewest, .ref q_this_surveys_sv0_firsts, .ref q_this_surveys_sv0_counts, .int v_this_surveys_sv0_said, .ref q_this_surveys_sv0_saidWithout, .ref q_this_surveys_sv0_row])), (q_this_surveys_sv1, .inr (5, [.int v_this_surveys_sv1_kind, .int v_this_surveys_sv1_known, .ref q_this_surveys_sv1_fewest, .ref q_this_surveys_sv1_firsts, .ref q_this_surveys_sv1_counts, .int v_this_surveys_sv1_said, .ref q_this_surveys_sv1_saidWithout, .ref q_this_surveys_sv1_row])), (q_this_surveys_sv2, .inr (5, [.int v_this_surveys_sv2_kind, .int v_this_surveys_sv2_known, .ref q_this_surveys_sv2_fewest, .ref q_this_surveys_sv2_firsts, .ref q_this_surveys_sv2_counts, .int v_this_surveys_sv2_said, .ref q_this_surveys_sv2_saidWithout, .ref q_this_surveys_sv2_row])), (q_this_surveys_sv3, .inr (5, [.int v_this_surveys_sv3_kind, .int v_this_surveys_sv3_known, .ref q_this_surveys_sv3_fewest, .ref q_this_surveys_sv3_firsts, .ref q_this_surveys_sv3_counts, .int v_this_surveys_sv3_said, .ref q_this_surveys_sv3_saidWithout, .ref q_this_surveys_sv3_row])), (q_this_surveys_sv4, .inr (5, [.int v_this_surveys_sv4_kind, .int v_this_surveys_sv4_known, .ref q_this_surveys_sv4_fewest, .ref q_this_surveys_sv4_firsts, .ref q_this_surveys_sv4_counts, .int v_this_surveys_sv4_said, .ref q_this_surveys_sv4_saidWithout, .ref q_this_surveys_sv4_row])), (q_this_eachSearch, .inr (1, [.int v_this_eachSearch_known, .int v_this_eachSearch_places, .ref q_this_eachSearch_ring])), (q_this_wornSearch, .inr (9, [.int v_this_wornSearch_known, .int v_this_wornSearch_blanks, .int v_this_wornSearch_many, .int v_this_wornSearch_best, .ref q_this_wornSearch_bestFill, .ref q_this_wornSearch_seen, .ref q_this_wornSearch_whole, .ref q_this_wornSearch_holes, .ref q_this_wornSearch_fill]))] : va_W)) rfl rfl (by decide) (by decide) (by decide) (fun u => (zW_X11_tongue cI cC cS q_this q_this_letters q_this_letters_signs q_this_now q_this_now_tongue q_this_now_tongue_kinds q_this_now_tongue_sets q_this_now_tongue_weights q_this_now_tongue_stocks q_this_now_tongue_readers q_this_now_tongue_eighths q_this_now_tongue_wishes q_this_teller q_this_teller_draft q_this_teller_draft_kinds q_this_teller_draft_sets q_this_teller_draft_weights q_this_teller_draft_stocks q_this_teller_draft_readers q_this_teller_draft_eighths q_this_teller_draft_wishes q_this_teller_numbers q_this_surveys q_this_surveys_sv0 q_this_surveys_sv1 q_this_surveys_sv2 q_this_surveys_sv3 q_this_surveys_sv4 q_this_eachSearch q_this_wornSearch q_this_kept q_this_chain q_this_row q_this_tally q_this_refused q_this_now_ring q_this_now_pairs q_this_surveys_sv0_fewest q_this_surveys_sv0_firsts q_this_surveys_sv0_counts q_this_surveys_sv0_saidWithout q_this_surveys_sv0_row q_this_surveys_sv1_fewest q_this_surveys_sv1_firsts q_this_surveys_sv1_counts q_this_surveys_sv1_saidWithout q_this_surveys_sv1_row q_this_surveys_sv2_fewest q_this_surveys_sv2_firsts q_this_surveys_sv2_counts q_this_surveys_sv2_saidWithout q_this_surveys_sv2_row q_this_surveys_sv3_fewest q_this_surveys_sv3_firsts q_this_surveys_sv3_counts q_this_surveys_sv3_saidWithout q_this_surveys_sv3_row q_this_surveys_sv4_fewest q_this_surveys_sv4_firsts q_this_surveys_sv4_counts q_this_surveys_sv4_saidWithout q_this_surveys_sv4_row q_this_eachSearch_ring q_this_wornSearch_bestFill q_this_wornSearch_seen q_this_wornSearch_whole q_this_wornSearch_holes q_this_wornSearch_fill v_this_keeps v_this_letters_many f_this_letters_signs u.2.2.2.2.2.2.2.2.2.2.2.2.2.2.1 u.2.2.2.2.2.2.2.2.2.2.2.2.2.2.2.1 u.2.2.2.2.2.2.2.2.2.2.2.2.2.2.2.2.1 u.2.2.2.2.2.2.2.2.2.2.2.2.2.2.2.2.2.1 u.2.2.2.2.2.2.2.2.2.2.2.2.2.2.2.2.2.2.1 u.2.2.2.2.2.2.2.2.2.2.2.2.2.2.2.2.2.2.2.1 u.2.2.2.2.2.2.2.2.2.2.2.2.2.2.2.2.2.2.2.2.1 u.2.2.2.2.2.2.2.2.2.2.2.2.2.2.2.2.2.2.2.2.2.1 u.2.2.2.2.2.2.2.2.2.2.2.2.2.2.2.2.2.2.2.2.2.2 u.1 u.2.1 u.2.2.1 u.2.2.2.1 u.2.2.2.2.1 u.2.2.2.2.2.1 u.2.2.2.2.2.2.1 u.2.2.2.2.2.2.2.1 u.2.2.2.2.2.2.2.2.1 u.2.2.2.2.2.2.2.2.2.1 u.2.2.2.2.2.2.2.2.2.2.1 u.2.2.2.2.2.2.2.2.2.2.2.1 u.2.2.2.2.2.2.2.2.2.2.2.2.1 u.2.2.2.2.2.2.2.2.2.2.2.2.2.1 F_this_surveys v_this_surveys_sv0_kind v_this_surveys_sv0_known v_this_surveys_sv0_said v_this_surveys_sv1_kind v_this_surveys_sv1_known v_this_surveys_sv1_said v_this_surveys_sv2_kind v_this_surveys_sv2_known v_this_surveys_sv2_said v_this_surveys_sv3_kind v_this_surveys_sv3_known v_this_surveys_sv3_said v_this_surveys_sv4_kind v_this_surveys_sv4_known v_this_surveys_sv4_said v_this_eachSearch_known v_this_eachSearch_places v_this_wornSearch_known v_this_wornSearch_blanks v_this_wornSearch_many v_this_wornSearch_best)) [0, 20, 21, 1, 22, 23, 24, 25, 26, 27, 28, 29, 10, 11, 12, 13, 14, 15, 16, 17, 18, 19, 2, 3, 4, 5, 6, 7, 8, 9] (fun u => rfl) (by decide) (fun r1 u1 H locs hf hP hD hS => ?_)
  have hP : va_P (dC, dI) vwCl (zW_X11_tongue cI cC cS q_this q_this_letters q_this_letters_signs q_this_now q_this_now_tongue q_this_now_tongue_kinds q_this_now_tongue_sets q_this_now_tongue_weights q_this_now_tongue_stocks q_this_now_tongue_readers q_this_now_tongue_eighths q_this_now_tongue_wishes q_this_teller q_this_teller_draft q_this_teller_draft_kinds q_this_teller_draft_sets q_this_teller_draft_weights q_this_teller_draft_stocks q_this_teller_draft_readers q_this_teller_draft_eighths q_this_teller_draft_wishes q_this_teller_numbers q_this_surveys q_this_surveys_sv0 q_this_surveys_sv1 q_this_surveys_sv2 q_this_surveys_sv3 q_this_surveys_sv4 q_this_eachSearch q_this_wornSearch q_this_kept q_this_chain q_this_row q_this_tally q_this_refused q_this_now_ring q_this_now_pairs q_this_surveys_sv0_fewest q_this_surveys_sv0_firsts q_this_surveys_sv0_counts q_this_surveys_sv0_saidWithout q_this_surveys_sv0_row q_this_surveys_sv1_fewest q_this_surveys_sv1_firsts q_this_surveys_sv1_counts q_this_surveys_sv1_saidWithout q_this_surveys_sv1_row q_this_surveys_sv2_fewest q_this_surveys_sv2_firsts q_this_surveys_sv2_counts q_this_surveys_sv2_saidWithout q_this_surveys_sv2_row q_this_surveys_sv3_fewest q_this_surveys_sv3_firsts q_this_surveys_sv3_counts q_this_surveys_sv3_saidWithout q_this_surveys_sv3_row q_this_surveys_sv4_fewest q_this_surveys_sv4_firsts q_this_surveys_sv4_counts q_this_surveys_sv4_saidWithout q_this_surveys_sv4_row q_this_eachSearch_ring q_this_wornSearch_bestFill q_this_wornSearch_seen q_this_wornSearch_whole q_this_wornSearch_holes q_this_wornSearch_fill v_this_keeps v_this_letters_many f_this_letters_signs u1.2.2.2.2.2.2.2.2.2.2.2.2.2.2.1 u1.2.2.2.2.2.2.2.2.2.2.2.2.2.2.2.1 u1.2.2.2.2.2.2.2.2.2.2.2.2.2.2.2.2.1 u1.2.2.2.2.2.2.2.2.2.2.2.2.2.2.2.2.2.1 u1.2.2.2.2.2.2.2.2.2.2.2.2.2.2.2.2.2.2.1 u1.2.2.2.2.2.2.2.2.2.2.2.2.2.2.2.2.2.2.2.1 u1.2.2.2.2.2.2.2.2.2.2.2.2.2.2.2.2.2.2.2.2.1 u1.2.2.2.2.2.2.2.2.2.2.2.2.2.2.2.2.2.2.2.2.2.1 u1.2.2.2.2.2.2.2.2.2.2.2.2.2.2.2.2.2.2.2.2.2.2 u1.1 u1.2.1 u1.2.2.1 u1.2.2.2.1 u1.2.2.2.2.1 u1.2.2.2.2.2.1 u1.2.2.2.2.2.2.1 u1.2.2.2.2.2.2.2.1 u1.2.2.2.2.2.2.2.2.1 u1.2.2.2.2.2.2.2.2.2.1 u1.2.2.2.2.2.2.2.2.2.2.1 u1.2.2.2.2.2.2.2.2.2.2.2.1 u1.2.2.2.2.2.2.2.2.2.2.2.2.1 u1.2.2.2.2.2.2.2.2.2.2.2.2.2.1 F_this_surveys v_this_surveys_sv0_kind v_this_surveys_sv0_known v_this_surveys_sv0_said v_this_surveys_sv1_kind v_this_surveys_sv1_known v_this_surveys_sv1_said v_this_surveys_sv2_kind v_this_surveys_sv2_known v_this_surveys_sv2_said v_this_surveys_sv3_kind v_this_surveys_sv3_known v_this_surveys_sv3_said v_this_surveys_sv4_kind v_this_surveys_sv4_known v_this_surveys_sv4_said v_this_eachSearch_known v_this_eachSearch_places v_this_wornSearch_known v_this_wornSearch_blanks v_this_wornSearch_many v_this_wornSearch_best) H := hP
  have hD : va_D A (zW_X11_tongue cI cC cS q_this q_this_letters q_this_letters_signs q_this_now q_this_now_tongue q_this_now_tongue_kinds q_this_now_tongue_sets q_this_now_tongue_weights q_this_now_tongue_stocks q_this_now_tongue_readers q_this_now_tongue_eighths q_this_now_tongue_wishes q_this_teller q_this_teller_draft q_this_teller_draft_kinds q_this_teller_draft_sets q_this_teller_draft_weights q_this_teller_draft_stocks q_this_teller_draft_readers q_this_teller_draft_eighths q_this_teller_draft_wishes q_this_teller_numbers q_this_surveys q_this_surveys_sv0 q_this_surveys_sv1 q_this_surveys_sv2 q_this_surveys_sv3 q_this_surveys_sv4 q_this_eachSearch q_this_wornSearch q_this_kept q_this_chain q_this_row q_this_tally q_this_refused q_this_now_ring q_this_now_pairs q_this_surveys_sv0_fewest q_this_surveys_sv0_firsts q_this_surveys_sv0_counts q_this_surveys_sv0_saidWithout q_this_surveys_sv0_row q_this_surveys_sv1_fewest q_this_surveys_sv1_firsts q_this_surveys_sv1_counts q_this_surveys_sv1_saidWithout q_this_surveys_sv1_row q_this_surveys_sv2_fewest q_this_surveys_sv2_firsts q_this_surveys_sv2_counts q_this_surveys_sv2_saidWithout q_this_surveys_sv2_row q_this_surveys_sv3_fewest q_this_surveys_sv3_firsts q_this_surveys_sv3_counts q_this_surveys_sv3_saidWithout q_this_surveys_sv3_row q_this_surveys_sv4_fewest q_this_surveys_sv4_firsts q_this_surveys_sv4_counts q_this_surveys_sv4_saidWithout q_this_surveys_sv4_row q_this_eachSearch_ring q_this_wornSearch_bestFill q_this_wornSearch_seen q_this_wornSearch_whole q_this_wornSearch_holes q_this_wornSearch_fill v_this_keeps v_this_letters_many f_this_letters_signs u1.2.2.2.2.2.2.2.2.2.2.2.2.2.2.1 u1.2.2.2.2.2.2.2.2.2.2.2.2.2.2.2.1 u1.2.2.2.2.2.2.2.2.2.2.2.2.2.2.2.2.1 u1.2.2.2.2.2.2.2.2.2.2.2.2.2.2.2.2.2.1 u1.2.2.2.2.2.2.2.2.2.2.2.2.2.2.2.2.2.2.1 u1.2.2.2.2.2.2.2.2.2.2.2.2.2.2.2.2.2.2.2.1 u1.2.2.2.2.2.2.2.2.2.2.2.2.2.2.2.2.2.2.2.2.1 u1.2.2.2.2.2.2.2.2.2.2.2.2.2.2.2.2.2.2.2.2.2.1 u1.2.2.2.2.2.2.2.2.2.2.2.2.2.2.2.2.2.2.2.2.2.2 u1.1 u1.2.1 u1.2.2.1 u1.2.2.2.1 u1.2.2.2.2.1 u1.2.2.2.2.2.1 u1.2.2.2.2.2.2.1 u1.2.2.2.2.2.2.2.1 u1.2.2.2.2.2.2.2.2.1 u1.2.2.2.2.2.2.2.2.2.1 u1.2.2.2.2.2.2.2.2.2.2.1 u1.2.2.2.2.2.2.2.2.2.2.2.1 u1.2.2.2.2.2.2.2.2.2.2.2.2.1 u1.2.2.2.2.2.2.2.2.2.2.2.2.2.1 F_this_surveys v_this_surveys_sv0_kind v_this_surveys_sv0_known v_this_surveys_sv0_said v_this_surveys_sv1_kind v_this_surveys_sv1_known v_this_surveys_sv1_said v_this_surveys_sv2_kind v_this_surveys_sv2_known v_this_surveys_sv2_said v_this_surveys_sv3_kind v_this_surveys_sv3_known v_this_surveys_sv3_said v_this_surveys_sv4_kind v_this_surveys_sv4_known v_this_surveys_sv4_said v_this_eachSearch_known v_this_eachSearch_places v_this_wornSearch_known v_this_wornSearch_blanks v_this_wornSearch_many v_this_wornSearch_best) := hD
  refine lv_istore_n (lv' := [(1, .int r1), (0, .ref q_this)]) hx hb dX11_tongue_18 rfl hl (by decide) rfl (fun ls hl => ?_)
  refine lv_aload_n hx hb dX11_tongue_19 rfl (lv_at hl 1 rfl) ?_
  refine va_get (D := (dC, dI)) (ci := 10) (v := .ref q_this_letters) (C := RX11) (T := TX11) (N := 12) hx hb hts inX11 hown hK hP 0 rfl rfl 0 (by decide) lk2 (fun _ h9 => h9) rfl dX11_tongue_20 ?_
  refine lv_iconst (v := 0) hx hb dX11_tongue_23 (by decide) ?_
  refine va_put (D := (dC, dI)) (ci := 2) (v := .int 0) (ty := .int) (C := RX2) (T := TX2) (N := 2) hx hb hts inX2 tyX2 tyX2_ok nmX2 hown hK hP hD hS 1 rfl rfl 1 (by decide) lk5 (fun _ h9 => h9) rfl (by decide +kernel) rfl rfl (Nat.le_of_ble_eq_true rfl) dX11_tongue_24 (fun H locs hP hD hS => ?_)
  have hP : va_P (dC, dI) vwCl (zW_X11_tongue cI cC cS q_this q_this_letters q_this_letters_signs q_this_now q_this_now_tongue q_this_now_tongue_kinds q_this_now_tongue_sets q_this_now_tongue_weights q_this_now_tongue_stocks q_this_now_tongue_readers q_this_now_tongue_eighths q_this_now_tongue_wishes q_this_teller q_this_teller_draft q_this_teller_draft_kinds q_this_teller_draft_sets q_this_teller_draft_weights q_this_teller_draft_stocks q_this_teller_draft_readers q_this_teller_draft_eighths q_this_teller_draft_wishes q_this_teller_numbers q_this_surveys q_this_surveys_sv0 q_this_surveys_sv1 q_this_surveys_sv2 q_this_surveys_sv3 q_this_surveys_sv4 q_this_eachSearch q_this_wornSearch q_this_kept q_this_chain q_this_row q_this_tally q_this_refused q_this_now_ring q_this_now_pairs q_this_surveys_sv0_fewest q_this_surveys_sv0_firsts q_this_surveys_sv0_counts q_this_surveys_sv0_saidWithout q_this_surveys_sv0_row q_this_surveys_sv1_fewest q_this_surveys_sv1_firsts q_this_surveys_sv1_counts q_this_surveys_sv1_saidWithout q_this_surveys_sv1_row q_this_surveys_sv2_fewest q_this_surveys_sv2_firsts q_this_surveys_sv2_counts q_this_surveys_sv2_saidWithout q_this_surveys_sv2_row q_this_surveys_sv3_fewest q_this_surveys_sv3_firsts q_this_surveys_sv3_counts q_this_surveys_sv3_saidWithout q_this_surveys_sv3_row q_this_surveys_sv4_fewest q_this_surveys_sv4_firsts q_this_surveys_sv4_counts q_this_surveys_sv4_saidWithout q_this_surveys_sv4_row q_this_eachSearch_ring q_this_wornSearch_bestFill q_this_wornSearch_seen q_this_wornSearch_whole q_this_wornSearch_holes q_this_wornSearch_fill v_this_keeps 0 f_this_letters_signs u1.2.2.2.2.2.2.2.2.2.2.2.2.2.2.1 u1.2.2.2.2.2.2.2.2.2.2.2.2.2.2.2.1 u1.2.2.2.2.2.2.2.2.2.2.2.2.2.2.2.2.1 u1.2.2.2.2.2.2.2.2.2.2.2.2.2.2.2.2.2.1 u1.2.2.2.2.2.2.2.2.2.2.2.2.2.2.2.2.2.2.1 u1.2.2.2.2.2.2.2.2.2.2.2.2.2.2.2.2.2.2.2.1 u1.2.2.2.2.2.2.2.2.2.2.2.2.2.2.2.2.2.2.2.2.1 u1.2.2.2.2.2.2.2.2.2.2.2.2.2.2.2.2.2.2.2.2.2.1 u1.2.2.2.2.2.2.2.2.2.2.2.2.2.2.2.2.2.2.2.2.2.2 u1.1 u1.2.1 u1.2.2.1 u1.2.2.2.1 u1.2.2.2.2.1 u1.2.2.2.2.2.1 u1.2.2.2.2.2.2.1 u1.2.2.2.2.2.2.2.1 u1.2.2.2.2.2.2.2.2.1 u1.2.2.2.2.2.2.2.2.2.1 u1.2.2.2.2.2.2.2.2.2.2.1 u1.2.2.2.2.2.2.2.2.2.2.2.1 u1.2.2.2.2.2.2.2.2.2.2.2.2.1 u1.2.2.2.2.2.2.2.2.2.2.2.2.2.1 F_this_surveys v_this_surveys_sv0_kind v_this_surveys_sv0_known v_this_surveys_sv0_said v_this_surveys_sv1_kind v_this_surveys_sv1_known v_this_surveys_sv1_said v_this_surveys_sv2_kind v_this_surveys_sv2_known v_this_surveys_sv2_said v_this_surveys_sv3_kind v_this_surveys_sv3_known v_this_surveys_sv3_said v_this_surveys_sv4_kind v_this_surveys_sv4_known v_this_surveys_sv4_said v_this_eachSearch_known v_this_eachSearch_places v_this_wornSearch_known v_this_wornSearch_blanks v_this_wornSearch_many v_this_wornSearch_best) H := hP
  have hD : va_D A (zW_X11_tongue cI cC cS q_this q_this_letters q_this_letters_signs q_this_now q_this_now_tongue q_this_now_tongue_kinds q_this_now_tongue_sets q_this_now_tongue_weights q_this_now_tongue_stocks q_this_now_tongue_readers q_this_now_tongue_eighths q_this_now_tongue_wishes q_this_teller q_this_teller_draft q_this_teller_draft_kinds q_this_teller_draft_sets q_this_teller_draft_weights q_this_teller_draft_stocks q_this_teller_draft_readers q_this_teller_draft_eighths q_this_teller_draft_wishes q_this_teller_numbers q_this_surveys q_this_surveys_sv0 q_this_surveys_sv1 q_this_surveys_sv2 q_this_surveys_sv3 q_this_surveys_sv4 q_this_eachSearch q_this_wornSearch q_this_kept q_this_chain q_this_row q_this_tally q_this_refused q_this_now_ring q_this_now_pairs q_this_surveys_sv0_fewest q_this_surveys_sv0_firsts q_this_surveys_sv0_counts q_this_surveys_sv0_saidWithout q_this_surveys_sv0_row q_this_surveys_sv1_fewest q_this_surveys_sv1_firsts q_this_surveys_sv1_counts q_this_surveys_sv1_saidWithout q_this_surveys_sv1_row q_this_surveys_sv2_fewest q_this_surveys_sv2_firsts q_this_surveys_sv2_counts q_this_surveys_sv2_saidWithout q_this_surveys_sv2_row q_this_surveys_sv3_fewest q_this_surveys_sv3_firsts q_this_surveys_sv3_counts q_this_surveys_sv3_saidWithout q_this_surveys_sv3_row q_this_surveys_sv4_fewest q_this_surveys_sv4_firsts q_this_surveys_sv4_counts q_this_surveys_sv4_saidWithout q_this_surveys_sv4_row q_this_eachSearch_ring q_this_wornSearch_bestFill q_this_wornSearch_seen q_this_wornSearch_whole q_this_wornSearch_holes q_this_wornSearch_fill v_this_keeps 0 f_this_letters_signs u1.2.2.2.2.2.2.2.2.2.2.2.2.2.2.1 u1.2.2.2.2.2.2.2.2.2.2.2.2.2.2.2.1 u1.2.2.2.2.2.2.2.2.2.2.2.2.2.2.2.2.1 u1.2.2.2.2.2.2.2.2.2.2.2.2.2.2.2.2.2.1 u1.2.2.2.2.2.2.2.2.2.2.2.2.2.2.2.2.2.2.1 u1.2.2.2.2.2.2.2.2.2.2.2.2.2.2.2.2.2.2.2.1 u1.2.2.2.2.2.2.2.2.2.2.2.2.2.2.2.2.2.2.2.2.1 u1.2.2.2.2.2.2.2.2.2.2.2.2.2.2.2.2.2.2.2.2.2.1 u1.2.2.2.2.2.2.2.2.2.2.2.2.2.2.2.2.2.2.2.2.2.2 u1.1 u1.2.1 u1.2.2.1 u1.2.2.2.1 u1.2.2.2.2.1 u1.2.2.2.2.2.1 u1.2.2.2.2.2.2.1 u1.2.2.2.2.2.2.2.1 u1.2.2.2.2.2.2.2.2.1 u1.2.2.2.2.2.2.2.2.2.1 u1.2.2.2.2.2.2.2.2.2.2.1 u1.2.2.2.2.2.2.2.2.2.2.2.1 u1.2.2.2.2.2.2.2.2.2.2.2.2.1 u1.2.2.2.2.2.2.2.2.2.2.2.2.2.1 F_this_surveys v_this_surveys_sv0_kind v_this_surveys_sv0_known v_this_surveys_sv0_said v_this_surveys_sv1_kind v_this_surveys_sv1_known v_this_surveys_sv1_said v_this_surveys_sv2_kind v_this_surveys_sv2_known v_this_surveys_sv2_said v_this_surveys_sv3_kind v_this_surveys_sv3_known v_this_surveys_sv3_said v_this_surveys_sv4_kind v_this_surveys_sv4_known v_this_surveys_sv4_said v_this_eachSearch_known v_this_eachSearch_places v_this_wornSearch_known v_this_wornSearch_blanks v_this_wornSearch_many v_this_wornSearch_best) := hD
  refine lv_iload_n hx hb dX11_tongue_27 rfl (lv_at hl 0 rfl) ?_
  refine lv_if_le (tgt := 35) hx hb dX11_tongue_28 (by decide) (fun c2 => ?_) (fun c2 => ?_)
  · replace hf := hf.1 c2
    refine lv_iload_n hx hb dX11_tongue_35 rfl (lv_at hl 0 rfl) ?_
    exact z_iret hx hb hr hlocks (0, u1.2.2.2.2.2.2.2.2.2.2.2.2.2.2.1, u1.2.2.2.2.2.2.2.2.2.2.2.2.2.2.2.1, u1.2.2.2.2.2.2.2.2.2.2.2.2.2.2.2.2.1, u1.2.2.2.2.2.2.2.2.2.2.2.2.2.2.2.2.2.1, u1.2.2.2.2.2.2.2.2.2.2.2.2.2.2.2.2.2.2.1, u1.2.2.2.2.2.2.2.2.2.2.2.2.2.2.2.2.2.2.2.1, u1.2.2.2.2.2.2.2.2.2.2.2.2.2.2.2.2.2.2.2.2.1, u1.2.2.2.2.2.2.2.2.2.2.2.2.2.2.2.2.2.2.2.2.2.1, u1.2.2.2.2.2.2.2.2.2.2.2.2.2.2.2.2.2.2.2.2.2.2, u1.1, u1.2.1, u1.2.2.1, u1.2.2.2.1, u1.2.2.2.2.1, u1.2.2.2.2.2.1, u1.2.2.2.2.2.2.1, u1.2.2.2.2.2.2.2.1, u1.2.2.2.2.2.2.2.2.1, u1.2.2.2.2.2.2.2.2.2.1, u1.2.2.2.2.2.2.2.2.2.2.1, u1.2.2.2.2.2.2.2.2.2.2.2.1, u1.2.2.2.2.2.2.2.2.2.2.2.2.1, u1.2.2.2.2.2.2.2.2.2.2.2.2.2.1, v_this_surveys_sv0_known, v_this_surveys_sv1_known, v_this_surveys_sv2_known, v_this_surveys_sv3_known, v_this_surveys_sv4_known, v_this_eachSearch_known, v_this_wornSearch_known) hf hK hP hD hS dX11_tongue_36
  · replace hf := hf.2 c2
    refine lv_aload_n hx hb dX11_tongue_31 rfl (lv_at hl 1 rfl) ?_
    refine z_Vv (n := 0) (As := []) (rest := []) ⟨hx, hb, hml, hown, hts⟩ (c_X11_forgetTongue l dC dI cI cC cS q_this q_this_surveys q_this_surveys_sv0 q_this_surveys_sv1 q_this_surveys_sv2 q_this_surveys_sv3 q_this_surveys_sv4 q_this_eachSearch q_this_wornSearch q_this_letters q_this_now q_this_kept q_this_teller q_this_chain q_this_row q_this_tally q_this_refused q_this_surveys_sv0_fewest q_this_surveys_sv0_firsts q_this_surveys_sv0_counts q_this_surveys_sv0_saidWithout q_this_surveys_sv0_row q_this_surveys_sv1_fewest q_this_surveys_sv1_firsts q_this_surveys_sv1_counts q_this_surveys_sv1_saidWithout q_this_surveys_sv1_row q_this_surveys_sv2_fewest q_this_surveys_sv2_firsts q_this_surveys_sv2_counts q_this_surveys_sv2_saidWithout q_this_surveys_sv2_row q_this_surveys_sv3_fewest q_this_surveys_sv3_firsts q_this_surveys_sv3_counts q_this_surveys_sv3_saidWithout q_this_surveys_sv3_row q_this_surveys_sv4_fewest q_this_surveys_sv4_firsts q_this_surveys_sv4_counts q_this_surveys_sv4_saidWithout q_this_surveys_sv4_row q_this_eachSearch_ring q_this_wornSearch_bestFill q_this_wornSearch_seen q_this_wornSearch_whole q_this_wornSearch_holes q_this_wornSearch_fill _ v_this_keeps F_this_surveys v_this_surveys_sv0_kind v_this_surveys_sv0_known v_this_surveys_sv0_said v_this_surveys_sv1_kind v_this_surveys_sv1_known v_this_surveys_sv1_said v_this_surveys_sv2_kind v_this_surveys_sv2_known v_this_surveys_sv2_said v_this_surveys_sv3_kind v_this_surveys_sv3_known v_this_surveys_sv3_said v_this_surveys_sv4_kind v_this_surveys_sv4_known v_this_surveys_sv4_said v_this_eachSearch_known v_this_eachSearch_places v_this_wornSearch_known v_this_wornSearch_blanks v_this_wornSearch_many v_this_wornSearch_best  N _ hF0 hF1 hF2 hF3 hF4 hf) gX11_tongue_X11_forgetTongue rfl rfl rfl (by decide +kernel) ⟨Nat.le_of_ble_eq_true rfl, Nat.le_of_ble_eq_true rfl⟩ hK hP hD hS hA 0 10 rfl rfl rfl hl.1 rfl (Nat.le_of_ble_eq_true rfl) dX11_tongue_32 ⟨Nat.zero_le _, Nat.zero_le _⟩ [0, 22, 23, 24, 25, 26, 27, 28, 29] [1, 2, 3, 4, 5, 6, 7, 8, 9, 10, 11, 12, 13, 14, 15, 16, 17, 18, 19, 20, 21] (([(q_this_letters, .inr (2, [.ref q_this_letters_signs, .int 0])), (q_this_letters_signs, .inl (cI, 64, .inl f_this_letters_signs)), (q_this_now, .inr (8, [.ref q_this_now_tongue, .ref q_this_now_ring, .ref q_this_now_pairs])), (q_this_now_tongue, .inr (7, [.ref q_this_now_tongue_kinds, .ref q_this_now_tongue_sets, .ref q_this_now_tongue_weights, .ref q_this_now_tongue_stocks, .int u1.2.2.2.2.2.2.2.2.2.2.2.2.2.2.1, .ref q_this_now_tongue_readers, .ref q_this_now_tongue_eighths, .ref q_this_now_tongue_wishes, .int u1.2.2.2.2.2.2.2.2.2.2.2.2.2.2.2.1])), (q_this_now_tongue_kinds, .inl (cI, 6, .inl u1.2.2.2.2.2.2.2.2.2.2.2.2.2.2.2.2.1)), (q_this_now_tongue_sets, .inl (cI, 6, .inl u1.2.2.2.2.2.2.2.2.2.2.2.2.2.2.2.2.2.1)), (q_this_now_tongue_weights, .inl (cI, 6, .inl u1.2.2.2.2.2.2.2.2.2.2.2.2.2.2.2.2.2.2.1)), (q_this_now_tongue_stocks, .inl (cI, 6, .inl u1.2.2.2.2.2.2.2.2.2.2.2.2.2.2.2.2.2.2.2.1)), (q_this_now_tongue_readers, .inl (cI, 6, .inl u1.2.2.2.2.2.2.2.2.2.2.2.2.2.2.2.2.2.2.2.2.1)), (q_this_now_tongue_eighths, .inl (cI, 6, .inl u1.2.2.2.2.2.2.2.2.2.2.2.2.2.2.2.2.2.2.2.2.2.1)), (q_this_now_tongue_wishes, .inl (cI, 6, .inl u1.2.2.2.2.2.2.2.2.2.2.2.2.2.2.2.2.2.2.2.2.2.2)), (q_this_teller, .inr (6, [.ref q_this_teller_draft, .ref q_this_teller_numbers, .int u1.1, .int u1.2.1, .int u1.2.2.1, .int u1.2.2.2.1])), (q_this_teller_draft, .inr (7, [.ref q_this_teller_draft_kinds, .ref q_this_teller_draft_sets, .ref q_this_teller_draft_weights, .ref q_this_teller_draft_stocks, .int u1.2.2.2.2.1, .ref q_this_teller_draft_readers, .ref q_this_teller_draft_eighths, .ref q_this_teller_draft_wishes, .int u1.2.2.2.2.2.1])), (q_this_teller_draft_kinds, .inl (cI, 6, .inl u1.2.2.2.2.2.2.1)), (q_this_teller_draft_sets, .inl (cI, 6, .inl u1.2.2.2.2.2.2.2.1)), (q_this_teller_draft_weights, .inl (cI, 6, .inl u1.2.2.2.2.2.2.2.2.1)), (q_this_teller_draft_stocks, .inl (cI, 6, .inl u1.2.2.2.2.2.2.2.2.2.1)), (q_this_teller_draft_readers, .inl (cI, 6, .inl u1.2.2.2.2.2.2.2.2.2.2.1)), (q_this_teller_draft_eighths, .inl (cI, 6, .inl u1.2.2.2.2.2.2.2.2.2.2.2.1)), (q_this_teller_draft_wishes, .inl (cI, 6, .inl u1.2.2.2.2.2.2.2.2.2.2.2.2.1)), (q_this_teller_numbers, .inl (cI, 2, .inl u1.2.2.2.2.2.2.2.2.2.2.2.2.2.1))] : va_W)) rfl rfl (by decide) (by decide) (by decide) (fun u => (zW_X11_tongue cI cC cS q_this q_this_letters q_this_letters_signs q_this_now q_this_now_tongue q_this_now_tongue_kinds q_this_now_tongue_sets q_this_now_tongue_weights q_this_now_tongue_stocks q_this_now_tongue_readers q_this_now_tongue_eighths q_this_now_tongue_wishes q_this_teller q_this_teller_draft q_this_teller_draft_kinds q_this_teller_draft_sets q_this_teller_draft_weights q_this_teller_draft_stocks q_this_teller_draft_readers q_this_teller_draft_eighths q_this_teller_draft_wishes q_this_teller_numbers q_this_surveys q_this_surveys_sv0 q_this_surveys_sv1 q_this_surveys_sv2 q_this_surveys_sv3 q_this_surveys_sv4 q_this_eachSearch q_this_wornSearch q_this_kept q_this_chain q_this_row q_this_tally q_this_refused q_this_now_ring q_this_now_pairs q_this_surveys_sv0_fewest q_this_surveys_sv0_firsts q_this_surveys_sv0_counts q_this_surveys_sv0_saidWithout q_this_surveys_sv0_row q_this_surveys_sv1_fewest q_this_surveys_sv1_firsts q_this_surveys_sv1_counts q_this_surveys_sv1_saidWithout q_this_surveys_sv1_row q_this_surveys_sv2_fewest q_this_surveys_sv2_firsts q_this_surveys_sv2_counts q_this_surveys_sv2_saidWithout q_this_surveys_sv2_row q_this_surveys_sv3_fewest q_this_surveys_sv3_firsts q_this_surveys_sv3_counts q_this_surveys_sv3_saidWithout q_this_surveys_sv3_row q_this_surveys_sv4_fewest q_this_surveys_sv4_firsts q_this_surveys_sv4_counts q_this_surveys_sv4_saidWithout q_this_surveys_sv4_row q_this_eachSearch_ring q_this_wornSearch_bestFill q_this_wornSearch_seen q_this_wornSearch_whole q_this_wornSearch_holes q_this_wornSearch_fill v_this_keeps 0 f_this_letters_signs u1.2.2.2.2.2.2.2.2.2.2.2.2.2.2.1 u1.2.2.2.2.2.2.2.2.2.2.2.2.2.2.2.1 u1.2.2.2.2.2.2.2.2.2.2.2.2.2.2.2.2.1 u1.2.2.2.2.2.2.2.2.2.2.2.2.2.2.2.2.2.1 u1.2.2.2.2.2.2.2.2.2.2.2.2.2.2.2.2.2.2.1 u1.2.2.2.2.2.2.2.2.2.2.2.2.2.2.2.2.2.2.2.1 u1.2.2.2.2.2.2.2.2.2.2.2.2.2.2.2.2.2.2.2.2.1 u1.2.2.2.2.2.2.2.2.2.2.2.2.2.2.2.2.2.2.2.2.2.1 u1.2.2.2.2.2.2.2.2.2.2.2.2.2.2.2.2.2.2.2.2.2.2 u1.1 u1.2.1 u1.2.2.1 u1.2.2.2.1 u1.2.2.2.2.1 u1.2.2.2.2.2.1 u1.2.2.2.2.2.2.1 u1.2.2.2.2.2.2.2.1 u1.2.2.2.2.2.2.2.2.1 u1.2.2.2.2.2.2.2.2.2.1 u1.2.2.2.2.2.2.2.2.2.2.1 u1.2.2.2.2.2.2.2.2.2.2.2.1 u1.2.2.2.2.2.2.2.2.2.2.2.2.1 u1.2.2.2.2.2.2.2.2.2.2.2.2.2.1 F_this_surveys v_this_surveys_sv0_kind u.1 v_this_surveys_sv0_said v_this_surveys_sv1_kind u.2.1 v_this_surveys_sv1_said v_this_surveys_sv2_kind u.2.2.1 v_this_surveys_sv2_said v_this_surveys_sv3_kind u.2.2.2.1 v_this_surveys_sv3_said v_this_surveys_sv4_kind u.2.2.2.2.1 v_this_surveys_sv4_said u.2.2.2.2.2.1 v_this_eachSearch_places u.2.2.2.2.2.2 v_this_wornSearch_blanks v_this_wornSearch_many v_this_wornSearch_best)) [21, 0, 1, 2, 3, 4, 5, 6, 7, 8, 9, 10, 11, 12, 13, 14, 15, 16, 17, 18, 19, 20, 22, 23, 24, 25, 26, 27, 28, 29] (fun u => rfl) (by decide) (fun u3 H locs hf hP hD hS => ?_)
    have hP : va_P (dC, dI) vwCl (zW_X11_tongue cI cC cS q_this q_this_letters q_this_letters_signs q_this_now q_this_now_tongue q_this_now_tongue_kinds q_this_now_tongue_sets q_this_now_tongue_weights q_this_now_tongue_stocks q_this_now_tongue_readers q_this_now_tongue_eighths q_this_now_tongue_wishes q_this_teller q_this_teller_draft q_this_teller_draft_kinds q_this_teller_draft_sets q_this_teller_draft_weights q_this_teller_draft_stocks q_this_teller_draft_readers q_this_teller_draft_eighths q_this_teller_draft_wishes q_this_teller_numbers q_this_surveys q_this_surveys_sv0 q_this_surveys_sv1 q_this_surveys_sv2 q_this_surveys_sv3 q_this_surveys_sv4 q_this_eachSearch q_this_wornSearch q_this_kept q_this_chain q_this_row q_this_tally q_this_refused q_this_now_ring q_this_now_pairs q_this_surveys_sv0_fewest q_this_surveys_sv0_firsts q_this_surveys_sv0_counts q_this_surveys_sv0_saidWithout q_this_surveys_sv0_row q_this_surveys_sv1_fewest q_this_surveys_sv1_firsts q_this_surveys_sv1_counts q_this_surveys_sv1_saidWithout q_this_surveys_sv1_row q_this_surveys_sv2_fewest q_this_surveys_sv2_firsts q_this_surveys_sv2_counts q_this_surveys_sv2_saidWithout q_this_surveys_sv2_row q_this_surveys_sv3_fewest q_this_surveys_sv3_firsts q_this_surveys_sv3_counts q_this_surveys_sv3_saidWithout q_this_surveys_sv3_row q_this_surveys_sv4_fewest q_this_surveys_sv4_firsts q_this_surveys_sv4_counts q_this_surveys_sv4_saidWithout q_this_surveys_sv4_row q_this_eachSearch_ring q_this_wornSearch_bestFill q_this_wornSearch_seen q_this_wornSearch_whole q_this_wornSearch_holes q_this_wornSearch_fill v_this_keeps 0 f_this_letters_signs u1.2.2.2.2.2.2.2.2.2.2.2.2.2.2.1 u1.2.2.2.2.2.2.2.2.2.2.2.2.2.2.2.1 u1.2.2.2.2.2.2.2.2.2.2.2.2.2.2.2.2.1 u1.2.2.2.2.2.2.2.2.2.2.2.2.2.2.2.2.2.1 u1.2.2.2.2.2.2.2.2.2.2.2.2.2.2.2.2.2.2.1 u1.2.2.2.2.2.2.2.2.2.2.2.2.2.2.2.2.2.2.2.1 u1.2.2.2.2.2.2.2.2.2.2.2.2.2.2.2.2.2.2.2.2.1 u1.2.2.2.2.2.2.2.2.2.2.2.2.2.2.2.2.2.2.2.2.2.1 u1.2.2.2.2.2.2.2.2.2.2.2.2.2.2.2.2.2.2.2.2.2.2 u1.1 u1.2.1 u1.2.2.1 u1.2.2.2.1 u1.2.2.2.2.1 u1.2.2.2.2.2.1 u1.2.2.2.2.2.2.1 u1.2.2.2.2.2.2.2.1 u1.2.2.2.2.2.2.2.2.1 u1.2.2.2.2.2.2.2.2.2.1 u1.2.2.2.2.2.2.2.2.2.2.1 u1.2.2.2.2.2.2.2.2.2.2.2.1 u1.2.2.2.2.2.2.2.2.2.2.2.2.1 u1.2.2.2.2.2.2.2.2.2.2.2.2.2.1 F_this_surveys v_this_surveys_sv0_kind u3.1 v_this_surveys_sv0_said v_this_surveys_sv1_kind u3.2.1 v_this_surveys_sv1_said v_this_surveys_sv2_kind u3.2.2.1 v_this_surveys_sv2_said v_this_surveys_sv3_kind u3.2.2.2.1 v_this_surveys_sv3_said v_this_surveys_sv4_kind u3.2.2.2.2.1 v_this_surveys_sv4_said u3.2.2.2.2.2.1 v_this_eachSearch_places u3.2.2.2.2.2.2 v_this_wornSearch_blanks v_this_wornSearch_many v_this_wornSearch_best) H := hP
    have hD : va_D A (zW_X11_tongue cI cC cS q_this q_this_letters q_this_letters_signs q_this_now q_this_now_tongue q_this_now_tongue_kinds q_this_now_tongue_sets q_this_now_tongue_weights q_this_now_tongue_stocks q_this_now_tongue_readers q_this_now_tongue_eighths q_this_now_tongue_wishes q_this_teller q_this_teller_draft q_this_teller_draft_kinds q_this_teller_draft_sets q_this_teller_draft_weights q_this_teller_draft_stocks q_this_teller_draft_readers q_this_teller_draft_eighths q_this_teller_draft_wishes q_this_teller_numbers q_this_surveys q_this_surveys_sv0 q_this_surveys_sv1 q_this_surveys_sv2 q_this_surveys_sv3 q_this_surveys_sv4 q_this_eachSearch q_this_wornSearch q_this_kept q_this_chain q_this_row q_this_tally q_this_refused q_this_now_ring q_this_now_pairs q_this_surveys_sv0_fewest q_this_surveys_sv0_firsts q_this_surveys_sv0_counts q_this_surveys_sv0_saidWithout q_this_surveys_sv0_row q_this_surveys_sv1_fewest q_this_surveys_sv1_firsts q_this_surveys_sv1_counts q_this_surveys_sv1_saidWithout q_this_surveys_sv1_row q_this_surveys_sv2_fewest q_this_surveys_sv2_firsts q_this_surveys_sv2_counts q_this_surveys_sv2_saidWithout q_this_surveys_sv2_row q_this_surveys_sv3_fewest q_this_surveys_sv3_firsts q_this_surveys_sv3_counts q_this_surveys_sv3_saidWithout q_this_surveys_sv3_row q_this_surveys_sv4_fewest q_this_surveys_sv4_firsts q_this_surveys_sv4_counts q_this_surveys_sv4_saidWithout q_this_surveys_sv4_row q_this_eachSearch_ring q_this_wornSearch_bestFill q_this_wornSearch_seen q_this_wornSearch_whole q_this_wornSearch_holes q_this_wornSearch_fill v_this_keeps 0 f_this_letters_signs u1.2.2.2.2.2.2.2.2.2.2.2.2.2.2.1 u1.2.2.2.2.2.2.2.2.2.2.2.2.2.2.2.1 u1.2.2.2.2.2.2.2.2.2.2.2.2.2.2.2.2.1 u1.2.2.2.2.2.2.2.2.2.2.2.2.2.2.2.2.2.1 u1.2.2.2.2.2.2.2.2.2.2.2.2.2.2.2.2.2.2.1 u1.2.2.2.2.2.2.2.2.2.2.2.2.2.2.2.2.2.2.2.1 u1.2.2.2.2.2.2.2.2.2.2.2.2.2.2.2.2.2.2.2.2.1 u1.2.2.2.2.2.2.2.2.2.2.2.2.2.2.2.2.2.2.2.2.2.1 u1.2.2.2.2.2.2.2.2.2.2.2.2.2.2.2.2.2.2.2.2.2.2 u1.1 u1.2.1 u1.2.2.1 u1.2.2.2.1 u1.2.2.2.2.1 u1.2.2.2.2.2.1 u1.2.2.2.2.2.2.1 u1.2.2.2.2.2.2.2.1 u1.2.2.2.2.2.2.2.2.1 u1.2.2.2.2.2.2.2.2.2.1 u1.2.2.2.2.2.2.2.2.2.2.1 u1.2.2.2.2.2.2.2.2.2.2.2.1 u1.2.2.2.2.2.2.2.2.2.2.2.2.1 u1.2.2.2.2.2.2.2.2.2.2.2.2.2.1 F_this_surveys v_this_surveys_sv0_kind u3.1 v_this_surveys_sv0_said v_this_surveys_sv1_kind u3.2.1 v_this_surveys_sv1_said v_this_surveys_sv2_kind u3.2.2.1 v_this_surveys_sv2_said v_this_surveys_sv3_kind u3.2.2.2.1 v_this_surveys_sv3_said v_this_surveys_sv4_kind u3.2.2.2.2.1 v_this_surveys_sv4_said u3.2.2.2.2.2.1 v_this_eachSearch_places u3.2.2.2.2.2.2 v_this_wornSearch_blanks v_this_wornSearch_many v_this_wornSearch_best) := hD
    refine lv_iload_n hx hb dX11_tongue_35 rfl (lv_at hl 0 rfl) ?_
    exact z_iret hx hb hr hlocks (0, u1.2.2.2.2.2.2.2.2.2.2.2.2.2.2.1, u1.2.2.2.2.2.2.2.2.2.2.2.2.2.2.2.1, u1.2.2.2.2.2.2.2.2.2.2.2.2.2.2.2.2.1, u1.2.2.2.2.2.2.2.2.2.2.2.2.2.2.2.2.2.1, u1.2.2.2.2.2.2.2.2.2.2.2.2.2.2.2.2.2.2.1, u1.2.2.2.2.2.2.2.2.2.2.2.2.2.2.2.2.2.2.2.1, u1.2.2.2.2.2.2.2.2.2.2.2.2.2.2.2.2.2.2.2.2.1, u1.2.2.2.2.2.2.2.2.2.2.2.2.2.2.2.2.2.2.2.2.2.1, u1.2.2.2.2.2.2.2.2.2.2.2.2.2.2.2.2.2.2.2.2.2.2, u1.1, u1.2.1, u1.2.2.1, u1.2.2.2.1, u1.2.2.2.2.1, u1.2.2.2.2.2.1, u1.2.2.2.2.2.2.1, u1.2.2.2.2.2.2.2.1, u1.2.2.2.2.2.2.2.2.1, u1.2.2.2.2.2.2.2.2.2.1, u1.2.2.2.2.2.2.2.2.2.2.1, u1.2.2.2.2.2.2.2.2.2.2.2.1, u1.2.2.2.2.2.2.2.2.2.2.2.2.1, u1.2.2.2.2.2.2.2.2.2.2.2.2.2.1, u3.1, u3.2.1, u3.2.2.1, u3.2.2.2.1, u3.2.2.2.2.1, u3.2.2.2.2.2.1, u3.2.2.2.2.2.2) hf hK hP hD hS dX11_tongue_36
