def lp_J7_fill_53178_5 (N : Nat) (n_p0 : Nat) (x1 : Int32) (x3 : Int32) (Φ : (Nat → Int32) → Prop) : Nat → Int32 → (Nat → Int32) → Prop
  | 0, _, _ => False
  | n + 1, x2, f_p0 => 
    ((x3 ≤ x2 → Φ f_p0) ∧
     (¬ (x3 ≤ x2) → (vp_in x2 n_p0 ∧ (lp_J7_fill_53178_5 N n_p0 x1 x3 Φ n) (x2 + 1) (upd f_p0 (Int32.toNatClampNeg x2) x1))))
def wp_J7_fill_53178 (N : Nat) (n_p0 : Nat) (x1 : Int32) (f_p0 : Nat → Int32) (Φ : (Nat → Int32) → Prop) : Prop := 
    lp_J7_fill_53178_5 N n_p0 x1 (Int32.ofNat n_p0) Φ N 0 f_p0
abbrev zW_J7_fill_53178 (cI cC cS : ClassId) (q_p0 : Nat) (n_p0 : Nat) (f_p0 : Nat → Int32) : va_W := [(q_p0, .inl (cI, n_p0, .inl f_p0))]
abbrev zr_J7_fill_53178 : Room := { frames := 0, cells := 0, slots := 0, locals := 0 }
set_option maxHeartbeats 4000000 in
set_option maxRecDepth 100000 in
theorem c_J7_fill_53178 (l : Launch) (dC : Nat → ClassId) (dI : Nat → Nat → Nat) (cI cC cS : ClassId) (q_p0 : Nat) (sz : Nat) (n_p0 : Nat) (f_p0 : Nat → Int32) (x1 : Int32) (N : Nat) (Φ : (Nat → Int32) → Prop)  (hf : wp_J7_fill_53178 N n_p0 x1 f_p0 Φ) : Met l yJ7_fill_53178 wsJ7_fill_53178 zr_J7_fill_53178 (zPc (dC, dI) (zT cI cC cS) [.ref q_p0, .int x1] sz (zW_J7_fill_53178 cI cC cS q_p0 n_p0 f_p0)) (zQv (dC, dI) (zT cI cC cS) (va_A (zW_J7_fill_53178 cI cC cS q_p0 n_p0 f_p0) sz) (fun (u : (Nat → Int32)) => Φ u) (fun u => (zW_J7_fill_53178 cI cC cS q_p0 n_p0 u))) 0 0 (va_A (zW_J7_fill_53178 cI cC cS q_p0 n_p0 f_p0) sz) := by
  refine Met.ofW (cc := cJ7_fill_53178) (maxL := 4) (ret := none) (by decide) rfl ?_
  intro p e s m args below meth c s₁ B hml hv
  obtain ⟨rfl, hsz, hP, hK, hD0⟩ := hv
  have hx := B.exec
  have hb := B.bytes
  have hr := B.returns
  have hts := atoms_spec (ws := wsJ7_fill_53178) B.pre
  have hown : s.vm.findClass RJ7 = some m.cls := findClass_of_methodNamed B.named
  have hlocks := B.notSynchronized
  subst hsz
  have hD := hD0.self (sz := s.heap.size)
  have hA : ∀ q : Nat, s.heap.size ≤ q → va_A (zW_J7_fill_53178 cI cC cS q_p0 n_p0 f_p0) s.heap.size q := fun q h => Or.inr h
  generalize va_A (zW_J7_fill_53178 cI cC cS q_p0 n_p0 f_p0) s.heap.size = A at hD hA ⊢
  have hS : va_S A s.heap s.heap [] := va_S.rf
  have hl := lv_entry ([.ref q_p0, .int x1]) (n := 4) (Nat.le_of_ble_eq_true rfl)
  rw [lg_entry_eq]
  generalize (lg_sl ([.ref q_p0, .int x1]) ++ List.replicate (4 - (lg_sl ([.ref q_p0, .int x1])).length) Slot.unset).toArray = ls at hl ⊢
  have hl : lv_has ls 4 [(0, .ref q_p0), (1, .int x1)] := hl
  have L5 : ∀ (x3 : Int32), ∀ (n5 : Nat) (x2 : Int32) (f_p0 : Nat → Int32), ∀ (H : Heap) (locs : List Loc) (ls : Array Slot), va_P (dC, dI) vwCl (zW_J7_fill_53178 cI cC cS q_p0 n_p0 f_p0) H → va_D A (zW_J7_fill_53178 cI cC cS q_p0 n_p0 f_p0) → va_S A s.heap H locs → lv_has ls 4 [(0, .ref q_p0), (1, .int x1), (2, .int x2), (3, .int x3)] → lp_J7_fill_53178_5 N n_p0 x1 x3 Φ n5 x2 f_p0 → W p l e (headSpec wsJ7_fill_53178 zr_J7_fill_53178).room s m ([.ref q_p0, .int x1] : List Value).toArray below meth c H locs 0 0 (MQ below (zQv (dC, dI) (zT cI cC cS) A (fun (u : (Nat → Int32)) => Φ u) (fun u => (zW_J7_fill_53178 cI cC cS q_p0 n_p0 u))) ([.ref q_p0, .int x1] : List Value).toArray s 0 0 A) (F0 m 5 ls []) := by
    intro x3
    intro n5
    induction n5 with
    | zero =>
      intro x2 f_p0 H locs ls hP hD hS hl hf
      exact absurd hf (by rw [lp_J7_fill_53178_5]; exact id)
    | succ n5 ih5 =>
      intro x2 f_p0 H locs ls hP hD hS hl hf
      rw [lp_J7_fill_53178_5] at hf
      refine lv_iload_n hx hb dJ7_fill_53178_5 rfl (lv_at hl 2 rfl) ?_
      refine lv_iload_n hx hb dJ7_fill_53178_6 rfl (lv_at hl 3 rfl) ?_
      refine lv_icmp_ge (tgt := 20) hx hb dJ7_fill_53178_7 (by decide) (fun c1 => ?_) (fun c1 => ?_)
      · replace hf := hf.1 c1
        exact z_vret hx hb hr hlocks (f_p0) hf hK hP hD hS dJ7_fill_53178_20
      · replace hf := hf.2 c1
        refine lv_aload_n hx hb dJ7_fill_53178_10 rfl (lv_at hl 0 rfl) ?_
        refine lv_iload_n hx hb dJ7_fill_53178_11 rfl (lv_at hl 2 rfl) ?_
        refine lv_iload_n hx hb dJ7_fill_53178_12 rfl (lv_at hl 1 rfl) ?_
        refine va_iast hx hb hK hP hD hS 0 0 rfl rfl hf.1 dJ7_fill_53178_13 (fun H locs hP hD hS => ?_)
        replace hf := hf.2
        have hP : va_P (dC, dI) vwCl (zW_J7_fill_53178 cI cC cS q_p0 n_p0 (upd f_p0 (Int32.toNatClampNeg x2) x1)) H := hP
        have hD : va_D A (zW_J7_fill_53178 cI cC cS q_p0 n_p0 (upd f_p0 (Int32.toNatClampNeg x2) x1)) := hD
        refine lv_iinc (v := (x2 + 1)) (lv' := [(2, .int (x2 + 1)), (0, .ref q_p0), (1, .int x1), (3, .int x3)]) hx hb dJ7_fill_53178_14 hl (k := 2) rfl (by rfl) (by decide) rfl (fun ls hl => ?_)
        refine lv_goto (tgt := 5) hx hb dJ7_fill_53178_17 (by decide) ?_
        exact ih5 (x2 + 1) (upd f_p0 (Int32.toNatClampNeg x2) x1) _ _ _ hP hD hS (lv_sub hl [1, 2, 0, 3] rfl) hf
  unfold wp_J7_fill_53178 at hf
  refine lv_iconst (v := 0) hx hb dJ7_fill_53178_0 (by decide) ?_
  refine lv_istore_n (lv' := [(2, .int 0), (0, .ref q_p0), (1, .int x1)]) hx hb dJ7_fill_53178_1 rfl hl (by decide) rfl (fun ls hl => ?_)
  refine lv_aload_n hx hb dJ7_fill_53178_2 rfl (lv_at hl 1 rfl) ?_
  refine va_alen hx hb hK hP 0 0 rfl (ty := .int) rfl (v := (Int32.ofNat n_p0)) rfl dJ7_fill_53178_3 ?_
  refine lv_istore_n (lv' := [(3, .int (Int32.ofNat n_p0)), (2, .int 0), (0, .ref q_p0), (1, .int x1)]) hx hb dJ7_fill_53178_4 rfl hl (by decide) rfl (fun ls hl => ?_)
  exact L5 (Int32.ofNat n_p0) N 0 f_p0 _ _ _ hP hD hS (lv_sub hl [2, 3, 1, 0] rfl) hf
def lp_X5_begin_2 (N : Nat) (n_p0 : Nat) (x1 : Int32) (Φ : (Nat → Int32) → Prop) : Nat → Int32 → (Nat → Int32) → Prop
  | 0, _, _ => False
  | n + 1, x2, f_p0 => 
    ((x1 ≤ x2 → Φ f_p0) ∧
     (¬ (x1 ≤ x2) → (((Int32.ofNat n_p0) ≤ x2 → Φ f_p0) ∧
     (¬ ((Int32.ofNat n_p0) ≤ x2) → (vp_in x2 n_p0 ∧ (lp_X5_begin_2 N n_p0 x1 Φ n) (x2 + 1) (upd f_p0 (Int32.toNatClampNeg x2) 0))))))
def wp_X5_begin (N : Nat) (n_p0 : Nat) (x1 : Int32) (f_p0 : Nat → Int32) (Φ : (Nat → Int32) → Prop) : Prop := 
    lp_X5_begin_2 N n_p0 x1 Φ N 0 f_p0
abbrev zW_X5_begin (cI cC cS : ClassId) (q_p0 : Nat) (n_p0 : Nat) (f_p0 : Nat → Int32) : va_W := [(q_p0, .inl (cI, n_p0, .inl f_p0))]
abbrev zr_X5_begin : Room := { frames := 0, cells := 0, slots := 0, locals := 0 }
set_option maxHeartbeats 4000000 in
set_option maxRecDepth 100000 in
theorem c_X5_begin (l : Launch) (dC : Nat → ClassId) (dI : Nat → Nat → Nat) (cI cC cS : ClassId) (q_p0 : Nat) (sz : Nat) (n_p0 : Nat) (f_p0 : Nat → Int32) (x1 : Int32) (N : Nat) (Φ : (Nat → Int32) → Prop)  (hf : wp_X5_begin N n_p0 x1 f_p0 Φ) : Met l yX5_begin wsX5_begin zr_X5_begin (zPc (dC, dI) (zT cI cC cS) [.ref q_p0, .int x1] sz (zW_X5_begin cI cC cS q_p0 n_p0 f_p0)) (zQv (dC, dI) (zT cI cC cS) (va_A (zW_X5_begin cI cC cS q_p0 n_p0 f_p0) sz) (fun (u : (Nat → Int32)) => Φ u) (fun u => (zW_X5_begin cI cC cS q_p0 n_p0 u))) 0 0 (va_A (zW_X5_begin cI cC cS q_p0 n_p0 f_p0) sz) := by
  refine Met.ofW (cc := cX5_begin) (maxL := 3) (ret := none) (by decide) rfl ?_
  intro p e s m args below meth c s₁ B hml hv
  obtain ⟨rfl, hsz, hP, hK, hD0⟩ := hv
  have hx := B.exec
  have hb := B.bytes
  have hr := B.returns
  have hts := atoms_spec (ws := wsX5_begin) B.pre
  have hown : s.vm.findClass RX5 = some m.cls := findClass_of_methodNamed B.named
  have hlocks := B.notSynchronized
  subst hsz
  have hD := hD0.self (sz := s.heap.size)
  have hA : ∀ q : Nat, s.heap.size ≤ q → va_A (zW_X5_begin cI cC cS q_p0 n_p0 f_p0) s.heap.size q := fun q h => Or.inr h
  generalize va_A (zW_X5_begin cI cC cS q_p0 n_p0 f_p0) s.heap.size = A at hD hA ⊢
  have hS : va_S A s.heap s.heap [] := va_S.rf
  have hl := lv_entry ([.ref q_p0, .int x1]) (n := 3) (Nat.le_of_ble_eq_true rfl)
  rw [lg_entry_eq]
  generalize (lg_sl ([.ref q_p0, .int x1]) ++ List.replicate (3 - (lg_sl ([.ref q_p0, .int x1])).length) Slot.unset).toArray = ls at hl ⊢
  have hl : lv_has ls 3 [(0, .ref q_p0), (1, .int x1)] := hl
  have L2 : ∀ (n2 : Nat) (x2 : Int32) (f_p0 : Nat → Int32), ∀ (H : Heap) (locs : List Loc) (ls : Array Slot), va_P (dC, dI) vwCl (zW_X5_begin cI cC cS q_p0 n_p0 f_p0) H → va_D A (zW_X5_begin cI cC cS q_p0 n_p0 f_p0) → va_S A s.heap H locs → lv_has ls 3 [(0, .ref q_p0), (1, .int x1), (2, .int x2)] → lp_X5_begin_2 N n_p0 x1 Φ n2 x2 f_p0 → W p l e (headSpec wsX5_begin zr_X5_begin).room s m ([.ref q_p0, .int x1] : List Value).toArray below meth c H locs 0 0 (MQ below (zQv (dC, dI) (zT cI cC cS) A (fun (u : (Nat → Int32)) => Φ u) (fun u => (zW_X5_begin cI cC cS q_p0 n_p0 u))) ([.ref q_p0, .int x1] : List Value).toArray s 0 0 A) (F0 m 2 ls []) := by
    intro n2
    induction n2 with
    | zero =>
      intro x2 f_p0 H locs ls hP hD hS hl hf
      exact absurd hf (by rw [lp_X5_begin_2]; exact id)
    | succ n2 ih2 =>
      intro x2 f_p0 H locs ls hP hD hS hl hf
      rw [lp_X5_begin_2] at hf
      refine lv_iload_n hx hb dX5_begin_2 rfl (lv_at hl 2 rfl) ?_
      refine lv_iload_n hx hb dX5_begin_3 rfl (lv_at hl 1 rfl) ?_
      refine lv_icmp_ge (tgt := 23) hx hb dX5_begin_4 (by decide) (fun c1 => ?_) (fun c1 => ?_)
      · replace hf := hf.1 c1
        exact z_vret hx hb hr hlocks (f_p0) hf hK hP hD hS dX5_begin_23
      · replace hf := hf.2 c1
        refine lv_iload_n hx hb dX5_begin_7 rfl (lv_at hl 2 rfl) ?_
        refine lv_aload_n hx hb dX5_begin_8 rfl (lv_at hl 0 rfl) ?_
        refine va_alen hx hb hK hP 0 0 rfl (ty := .int) rfl (v := (Int32.ofNat n_p0)) rfl dX5_begin_9 ?_
        refine lv_icmp_ge (tgt := 23) hx hb dX5_begin_10 (by decide) (fun c2 => ?_) (fun c2 => ?_)
        · replace hf := hf.1 c2
          exact z_vret hx hb hr hlocks (f_p0) hf hK hP hD hS dX5_begin_23
        · replace hf := hf.2 c2
          refine lv_aload_n hx hb dX5_begin_13 rfl (lv_at hl 0 rfl) ?_
          refine lv_iload_n hx hb dX5_begin_14 rfl (lv_at hl 2 rfl) ?_
          refine lv_iconst (v := 0) hx hb dX5_begin_15 (by decide) ?_
          refine va_iast hx hb hK hP hD hS 0 0 rfl rfl hf.1 dX5_begin_16 (fun H locs hP hD hS => ?_)
          replace hf := hf.2
          have hP : va_P (dC, dI) vwCl (zW_X5_begin cI cC cS q_p0 n_p0 (upd f_p0 (Int32.toNatClampNeg x2) 0)) H := hP
          have hD : va_D A (zW_X5_begin cI cC cS q_p0 n_p0 (upd f_p0 (Int32.toNatClampNeg x2) 0)) := hD
          refine lv_iinc (v := (x2 + 1)) (lv' := [(2, .int (x2 + 1)), (0, .ref q_p0), (1, .int x1)]) hx hb dX5_begin_17 hl (k := 2) rfl (by rfl) (by decide) rfl (fun ls hl => ?_)
          refine lv_goto (tgt := 2) hx hb dX5_begin_20 (by decide) ?_
          exact ih2 (x2 + 1) (upd f_p0 (Int32.toNatClampNeg x2) 0) _ _ _ hP hD hS (lv_sub hl [1, 2, 0] rfl) hf
  unfold wp_X5_begin at hf
  refine lv_iconst (v := 0) hx hb dX5_begin_0 (by decide) ?_
  refine lv_istore_n (lv' := [(2, .int 0), (0, .ref q_p0), (1, .int x1)]) hx hb dX5_begin_1 rfl hl (by decide) rfl (fun ls hl => ?_)
  exact L2  N 0 f_p0 _ _ _ hP hD hS (lv_sub hl [1, 2, 0] rfl) hf
def lp_X5_howMany_4 (N : Nat) (x0 : Int32) (x1 : Int32) (Φ : Int32 → Prop) : Nat → Int32 → Int32 → Prop
  | 0, _, _ => False
  | n + 1, x2, x3 => 
    ((x1 ≤ x3 → Φ x2) ∧
     (¬ (x1 ≤ x3) → (lp_X5_howMany_4 N x0 x1 Φ n) (x2 * x0) (x3 + 1)))
def wp_X5_howMany (N : Nat) (x0 : Int32) (x1 : Int32) (Φ : Int32 → Prop) : Prop := 
    lp_X5_howMany_4 N x0 x1 Φ N 1 0
abbrev zW_X5_howMany (cI cC cS : ClassId)  : va_W := []
abbrev zr_X5_howMany : Room := { frames := 0, cells := 0, slots := 0, locals := 0 }
set_option maxHeartbeats 4000000 in
set_option maxRecDepth 100000 in
theorem c_X5_howMany (l : Launch) (dC : Nat → ClassId) (dI : Nat → Nat → Nat) (cI cC cS : ClassId)  (sz : Nat) (x0 : Int32) (x1 : Int32) (N : Nat) (Φ : Int32 → Prop)  (hf : wp_X5_howMany N x0 x1 Φ) : Met l yX5_howMany wsX5_howMany zr_X5_howMany (zPc (dC, dI) (zT cI cC cS) [.int x0, .int x1] sz (zW_X5_howMany cI cC cS )) (zQi (dC, dI) (zT cI cC cS) (va_A (zW_X5_howMany cI cC cS ) sz) (fun (r : Int32) (u : Unit) => Φ r) (fun u => (zW_X5_howMany cI cC cS ))) 0 0 (va_A (zW_X5_howMany cI cC cS ) sz) := by
  refine Met.ofW (cc := cX5_howMany) (maxL := 4) (ret := (some .int)) (by decide) rfl ?_
  intro p e s m args below meth c s₁ B hml hv
  obtain ⟨rfl, hsz, hP, hK, hD0⟩ := hv
  have hx := B.exec
  have hb := B.bytes
  have hr := B.returns
  have hts := atoms_spec (ws := wsX5_howMany) B.pre
  have hown : s.vm.findClass RX5 = some m.cls := findClass_of_methodNamed B.named
  have hlocks := B.notSynchronized
  subst hsz
  have hD := hD0.self (sz := s.heap.size)
  have hA : ∀ q : Nat, s.heap.size ≤ q → va_A (zW_X5_howMany cI cC cS ) s.heap.size q := fun q h => Or.inr h
  generalize va_A (zW_X5_howMany cI cC cS ) s.heap.size = A at hD hA ⊢
  have hS : va_S A s.heap s.heap [] := va_S.rf
  have hl := lv_entry ([.int x0, .int x1]) (n := 4) (Nat.le_of_ble_eq_true rfl)
  rw [lg_entry_eq]
  generalize (lg_sl ([.int x0, .int x1]) ++ List.replicate (4 - (lg_sl ([.int x0, .int x1])).length) Slot.unset).toArray = ls at hl ⊢
  have hl : lv_has ls 4 [(0, .int x0), (1, .int x1)] := hl
  have L4 : ∀ (n4 : Nat) (x2 : Int32) (x3 : Int32), ∀ (H : Heap) (locs : List Loc) (ls : Array Slot), va_P (dC, dI) vwCl (zW_X5_howMany cI cC cS ) H → va_D A (zW_X5_howMany cI cC cS ) → va_S A s.heap H locs → lv_has ls 4 [(0, .int x0), (1, .int x1), (2, .int x2), (3, .int x3)] → lp_X5_howMany_4 N x0 x1 Φ n4 x2 x3 → W p l e (headSpec wsX5_howMany zr_X5_howMany).room s m ([.int x0, .int x1] : List Value).toArray below meth c H locs 0 0 (MQ below (zQi (dC, dI) (zT cI cC cS) A (fun (r : Int32) (u : Unit) => Φ r) (fun u => (zW_X5_howMany cI cC cS ))) ([.int x0, .int x1] : List Value).toArray s 0 0 A) (F0 m 4 ls []) := by
    intro n4
    induction n4 with
    | zero =>
      intro x2 x3 H locs ls hP hD hS hl hf
      exact absurd hf (by rw [lp_X5_howMany_4]; exact id)
    | succ n4 ih4 =>
      intro x2 x3 H locs ls hP hD hS hl hf
      rw [lp_X5_howMany_4] at hf
      refine lv_iload_n hx hb dX5_howMany_4 rfl (lv_at hl 3 rfl) ?_
      refine lv_iload_n hx hb dX5_howMany_5 rfl (lv_at hl 1 rfl) ?_
      refine lv_icmp_ge (tgt := 19) hx hb dX5_howMany_6 (by decide) (fun c1 => ?_) (fun c1 => ?_)
      · replace hf := hf.1 c1
        refine lv_iload_n hx hb dX5_howMany_19 rfl (lv_at hl 2 rfl) ?_
        exact z_iret hx hb hr hlocks () hf hK hP hD hS dX5_howMany_20
      · replace hf := hf.2 c1
        refine lv_iload_n hx hb dX5_howMany_9 rfl (lv_at hl 2 rfl) ?_
        refine lv_iload_n hx hb dX5_howMany_10 rfl (lv_at hl 0 rfl) ?_
        refine lv_imul hx hb dX5_howMany_11 ?_
        refine lv_istore_n (lv' := [(2, .int (x2 * x0)), (0, .int x0), (1, .int x1), (3, .int x3)]) hx hb dX5_howMany_12 rfl hl (by decide) rfl (fun ls hl => ?_)
        refine lv_iinc (v := (x3 + 1)) (lv' := [(3, .int (x3 + 1)), (2, .int (x2 * x0)), (0, .int x0), (1, .int x1)]) hx hb dX5_howMany_13 hl (k := 3) rfl (by rfl) (by decide) rfl (fun ls hl => ?_)
        refine lv_goto (tgt := 4) hx hb dX5_howMany_16 (by decide) ?_
        exact ih4 (x2 * x0) (x3 + 1) _ _ _ hP hD hS (lv_sub hl [2, 3, 1, 0] rfl) hf
  unfold wp_X5_howMany at hf
  refine lv_iconst (v := 1) hx hb dX5_howMany_0 (by decide) ?_
  refine lv_istore_n (lv' := [(2, .int 1), (0, .int x0), (1, .int x1)]) hx hb dX5_howMany_1 rfl hl (by decide) rfl (fun ls hl => ?_)
  refine lv_iconst (v := 0) hx hb dX5_howMany_2 (by decide) ?_
  refine lv_istore_n (lv' := [(3, .int 0), (2, .int 1), (0, .int x0), (1, .int x1)]) hx hb dX5_howMany_3 rfl hl (by decide) rfl (fun ls hl => ?_)
  exact L4  N 1 0 _ _ _ hP hD hS (lv_sub hl [2, 3, 1, 0] rfl) hf
def lp_X5_step_4 (N : Nat) (n_p0 : Nat) (x2 : Int32) (Φ : (Nat → Int32) → Prop) : Nat → Int32 → (Nat → Int32) → Prop
  | 0, _, _ => False
  | n + 1, x3, f_p0 => 
    ((x3 < 0 → Φ f_p0) ∧
     (¬ (x3 < 0) → (((Int32.ofNat n_p0) ≤ x3 → Φ f_p0) ∧
     (¬ ((Int32.ofNat n_p0) ≤ x3) → (vp_in x3 n_p0 ∧ (vp_in x3 n_p0 ∧ (vp_in x3 n_p0 ∧ ((x2 ≤ ((upd f_p0 (Int32.toNatClampNeg x3) ((f_p0 (Int32.toNatClampNeg x3)) + 1)) (Int32.toNatClampNeg x3)) → (vp_in x3 n_p0 ∧ (lp_X5_step_4 N n_p0 x2 Φ n) (x3 + (-1)) (upd (upd f_p0 (Int32.toNatClampNeg x3) ((f_p0 (Int32.toNatClampNeg x3)) + 1)) (Int32.toNatClampNeg x3) 0))) ∧
     (¬ (x2 ≤ ((upd f_p0 (Int32.toNatClampNeg x3) ((f_p0 (Int32.toNatClampNeg x3)) + 1)) (Int32.toNatClampNeg x3))) → Φ (upd f_p0 (Int32.toNatClampNeg x3) ((f_p0 (Int32.toNatClampNeg x3)) + 1)))))))))))
def wp_X5_step (N : Nat) (n_p0 : Nat) (x1 : Int32) (x2 : Int32) (f_p0 : Nat → Int32) (Φ : (Nat → Int32) → Prop) : Prop := 
    lp_X5_step_4 N n_p0 x2 Φ N (x1 - 1) f_p0
abbrev zW_X5_step (cI cC cS : ClassId) (q_p0 : Nat) (n_p0 : Nat) (f_p0 : Nat → Int32) : va_W := [(q_p0, .inl (cI, n_p0, .inl f_p0))]
abbrev zr_X5_step : Room := { frames := 0, cells := 0, slots := 0, locals := 0 }
set_option maxHeartbeats 4000000 in
set_option maxRecDepth 100000 in
theorem c_X5_step (l : Launch) (dC : Nat → ClassId) (dI : Nat → Nat → Nat) (cI cC cS : ClassId) (q_p0 : Nat) (sz : Nat) (n_p0 : Nat) (f_p0 : Nat → Int32) (x1 : Int32) (x2 : Int32) (N : Nat) (Φ : (Nat → Int32) → Prop)  (hf : wp_X5_step N n_p0 x1 x2 f_p0 Φ) : Met l yX5_step wsX5_step zr_X5_step (zPc (dC, dI) (zT cI cC cS) [.ref q_p0, .int x1, .int x2] sz (zW_X5_step cI cC cS q_p0 n_p0 f_p0)) (zQv (dC, dI) (zT cI cC cS) (va_A (zW_X5_step cI cC cS q_p0 n_p0 f_p0) sz) (fun (u : (Nat → Int32)) => Φ u) (fun u => (zW_X5_step cI cC cS q_p0 n_p0 u))) 0 0 (va_A (zW_X5_step cI cC cS q_p0 n_p0 f_p0) sz) := by
  refine Met.ofW (cc := cX5_step) (maxL := 4) (ret := none) (by decide) rfl ?_
  intro p e s m args below meth c s₁ B hml hv
  obtain ⟨rfl, hsz, hP, hK, hD0⟩ := hv
  have hx := B.exec
  have hb := B.bytes
  have hr := B.returns
  have hts := atoms_spec (ws := wsX5_step) B.pre
  have hown : s.vm.findClass RX5 = some m.cls := findClass_of_methodNamed B.named
  have hlocks := B.notSynchronized
  subst hsz
  have hD := hD0.self (sz := s.heap.size)
  have hA : ∀ q : Nat, s.heap.size ≤ q → va_A (zW_X5_step cI cC cS q_p0 n_p0 f_p0) s.heap.size q := fun q h => Or.inr h
  generalize va_A (zW_X5_step cI cC cS q_p0 n_p0 f_p0) s.heap.size = A at hD hA ⊢
  have hS : va_S A s.heap s.heap [] := va_S.rf
  have hl := lv_entry ([.ref q_p0, .int x1, .int x2]) (n := 4) (Nat.le_of_ble_eq_true rfl)
  rw [lg_entry_eq]
  generalize (lg_sl ([.ref q_p0, .int x1, .int x2]) ++ List.replicate (4 - (lg_sl ([.ref q_p0, .int x1, .int x2])).length) Slot.unset).toArray = ls at hl ⊢
  have hl : lv_has ls 4 [(0, .ref q_p0), (1, .int x1), (2, .int x2)] := hl
  have L4 : ∀ (n4 : Nat) (x3 : Int32) (f_p0 : Nat → Int32), ∀ (H : Heap) (locs : List Loc) (ls : Array Slot), va_P (dC, dI) vwCl (zW_X5_step cI cC cS q_p0 n_p0 f_p0) H → va_D A (zW_X5_step cI cC cS q_p0 n_p0 f_p0) → va_S A s.heap H locs → lv_has ls 4 [(0, .ref q_p0), (2, .int x2), (3, .int x3)] → lp_X5_step_4 N n_p0 x2 Φ n4 x3 f_p0 → W p l e (headSpec wsX5_step zr_X5_step).room s m ([.ref q_p0, .int x1, .int x2] : List Value).toArray below meth c H locs 0 0 (MQ below (zQv (dC, dI) (zT cI cC cS) A (fun (u : (Nat → Int32)) => Φ u) (fun u => (zW_X5_step cI cC cS q_p0 n_p0 u))) ([.ref q_p0, .int x1, .int x2] : List Value).toArray s 0 0 A) (F0 m 4 ls []) := by
    intro n4
    induction n4 with
    | zero =>
      intro x3 f_p0 H locs ls hP hD hS hl hf
      exact absurd hf (by rw [lp_X5_step_4]; exact id)
    | succ n4 ih4 =>
      intro x3 f_p0 H locs ls hP hD hS hl hf
      rw [lp_X5_step_4] at hf
      refine lv_iload_n hx hb dX5_step_4 rfl (lv_at hl 2 rfl) ?_
      refine lv_if_lt (tgt := 39) hx hb dX5_step_5 (by decide) (fun c1 => ?_) (fun c1 => ?_)
      · replace hf := hf.1 c1
        exact z_vret hx hb hr hlocks (f_p0) hf hK hP hD hS dX5_step_39
      · replace hf := hf.2 c1
        refine lv_iload_n hx hb dX5_step_8 rfl (lv_at hl 2 rfl) ?_
        refine lv_aload_n hx hb dX5_step_9 rfl (lv_at hl 0 rfl) ?_
        refine va_alen hx hb hK hP 0 0 rfl (ty := .int) rfl (v := (Int32.ofNat n_p0)) rfl dX5_step_10 ?_
        refine lv_icmp_ge (tgt := 39) hx hb dX5_step_11 (by decide) (fun c2 => ?_) (fun c2 => ?_)
        · replace hf := hf.1 c2
          exact z_vret hx hb hr hlocks (f_p0) hf hK hP hD hS dX5_step_39
        · replace hf := hf.2 c2
          refine lv_aload_n hx hb dX5_step_14 rfl (lv_at hl 0 rfl) ?_
          refine lv_iload_n hx hb dX5_step_15 rfl (lv_at hl 2 rfl) ?_
          refine lv_dup2_11 hx hb dX5_step_16 rfl rfl ?_
          refine va_iald hx hb hK hP 0 0 rfl rfl hf.1 dX5_step_17 ?_
          replace hf := hf.2
          refine lv_iconst (v := 1) hx hb dX5_step_18 (by decide) ?_
          refine lv_iadd hx hb dX5_step_19 ?_
          refine va_iast hx hb hK hP hD hS 0 0 rfl rfl hf.1 dX5_step_20 (fun H locs hP hD hS => ?_)
          replace hf := hf.2
          have hP : va_P (dC, dI) vwCl (zW_X5_step cI cC cS q_p0 n_p0 (upd f_p0 (Int32.toNatClampNeg x3) ((f_p0 (Int32.toNatClampNeg x3)) + 1))) H := hP
          have hD : va_D A (zW_X5_step cI cC cS q_p0 n_p0 (upd f_p0 (Int32.toNatClampNeg x3) ((f_p0 (Int32.toNatClampNeg x3)) + 1))) := hD
          refine lv_aload_n hx hb dX5_step_21 rfl (lv_at hl 0 rfl) ?_
          refine lv_iload_n hx hb dX5_step_22 rfl (lv_at hl 2 rfl) ?_
          refine va_iald hx hb hK hP 0 0 rfl rfl hf.1 dX5_step_23 ?_
          replace hf := hf.2
          refine lv_iload_n hx hb dX5_step_24 rfl (lv_at hl 1 rfl) ?_
          refine lv_icmp_ge (tgt := 29) hx hb dX5_step_25 (by decide) (fun c3 => ?_) (fun c3 => ?_)
          · replace hf := hf.1 c3
            refine lv_aload_n hx hb dX5_step_29 rfl (lv_at hl 0 rfl) ?_
            refine lv_iload_n hx hb dX5_step_30 rfl (lv_at hl 2 rfl) ?_
            refine lv_iconst (v := 0) hx hb dX5_step_31 (by decide) ?_
            refine va_iast hx hb hK hP hD hS 0 0 rfl rfl hf.1 dX5_step_32 (fun H locs hP hD hS => ?_)
            replace hf := hf.2
            have hP : va_P (dC, dI) vwCl (zW_X5_step cI cC cS q_p0 n_p0 (upd (upd f_p0 (Int32.toNatClampNeg x3) ((f_p0 (Int32.toNatClampNeg x3)) + 1)) (Int32.toNatClampNeg x3) 0)) H := hP
            have hD : va_D A (zW_X5_step cI cC cS q_p0 n_p0 (upd (upd f_p0 (Int32.toNatClampNeg x3) ((f_p0 (Int32.toNatClampNeg x3)) + 1)) (Int32.toNatClampNeg x3) 0)) := hD
            refine lv_iinc (v := (x3 + (-1))) (lv' := [(3, .int (x3 + (-1))), (0, .ref q_p0), (2, .int x2)]) hx hb dX5_step_33 hl (k := 2) rfl (by rfl) (by decide) rfl (fun ls hl => ?_)
            refine lv_goto (tgt := 4) hx hb dX5_step_36 (by decide) ?_
            exact ih4 (x3 + (-1)) (upd (upd f_p0 (Int32.toNatClampNeg x3) ((f_p0 (Int32.toNatClampNeg x3)) + 1)) (Int32.toNatClampNeg x3) 0) _ _ _ hP hD hS (lv_sub hl [1, 2, 0] rfl) hf
          · replace hf := hf.2 c3
            exact z_vret hx hb hr hlocks ((upd f_p0 (Int32.toNatClampNeg x3) ((f_p0 (Int32.toNatClampNeg x3)) + 1))) hf hK hP hD hS dX5_step_28
  unfold wp_X5_step at hf
  refine lv_iload_n hx hb dX5_step_0 rfl (lv_at hl 1 rfl) ?_
  refine lv_iconst (v := 1) hx hb dX5_step_1 (by decide) ?_
  refine lv_isub hx hb dX5_step_2 ?_
  refine lv_istore_n (lv' := [(3, .int (x1 - 1)), (0, .ref q_p0), (1, .int x1), (2, .int x2)]) hx hb dX5_step_3 rfl hl (by decide) rfl (fun ls hl => ?_)
  exact L4  N (x1 - 1) f_p0 _ _ _ hP hD hS (lv_sub hl [1, 3, 0] rfl) hf
def ex_X5_turnComesAhead_21 (N : Nat) (n_p0 : Nat) (x3 : Int32) (x4 : Int32) (f_p0 : Nat → Int32) (Φ : Int32 → Prop) : Prop := 
    (vp_in x3 n_p0 ∧ (vp_in x4 n_p0 ∧ (((f_p0 (Int32.toNatClampNeg x4)) ≤ (f_p0 (Int32.toNatClampNeg x3)) → Φ 0) ∧
     (¬ ((f_p0 (Int32.toNatClampNeg x4)) ≤ (f_p0 (Int32.toNatClampNeg x3))) → Φ 1))))
def lp_X5_turnComesAhead_5 (N : Nat) (n_p0 : Nat) (x1 : Int32) (f_p0 : Nat → Int32) (Φ : Int32 → Prop) (k21 : Int32 → Int32 → Prop) : Nat → Int32 → Int32 → Prop
  | 0, _, _ => False
  | n + 1, x3, x4 => 
    ((x1 ≤ x4 → Φ 0) ∧
     (¬ (x1 ≤ x4) → (vp_in x3 n_p0 ∧ (vp_in x4 n_p0 ∧ (((f_p0 (Int32.toNatClampNeg x3)) = (f_p0 (Int32.toNatClampNeg x4)) → (((x3 + 1) = x1 → (lp_X5_turnComesAhead_5 N n_p0 x1 f_p0 Φ k21 n) 0 (x4 + 1)) ∧
     (¬ ((x3 + 1) = x1) → (lp_X5_turnComesAhead_5 N n_p0 x1 f_p0 Φ k21 n) (x3 + 1) (x4 + 1)))) ∧
     (¬ ((f_p0 (Int32.toNatClampNeg x3)) = (f_p0 (Int32.toNatClampNeg x4))) → k21 x3 x4))))))
def wp_X5_turnComesAhead (N : Nat) (n_p0 : Nat) (x1 : Int32) (x2 : Int32) (f_p0 : Nat → Int32) (Φ : Int32 → Prop) : Prop := 
    lp_X5_turnComesAhead_5 N n_p0 x1 f_p0 Φ (fun x3h5 x4h5 => ex_X5_turnComesAhead_21 N n_p0 x3h5 x4h5 f_p0 Φ) N x2 0
abbrev zW_X5_turnComesAhead (cI cC cS : ClassId) (q_p0 : Nat) (n_p0 : Nat) (f_p0 : Nat → Int32) : va_W := [(q_p0, .inl (cI, n_p0, .inl f_p0))]
abbrev zr_X5_turnComesAhead : Room := { frames := 0, cells := 0, slots := 0, locals := 0 }
set_option maxHeartbeats 4000000 in
set_option maxRecDepth 100000 in
theorem c_X5_turnComesAhead (l : Launch) (dC : Nat → ClassId) (dI : Nat → Nat → Nat) (cI cC cS : ClassId) (q_p0 : Nat) (sz : Nat) (n_p0 : Nat) (f_p0 : Nat → Int32) (x1 : Int32) (x2 : Int32) (N : Nat) (Φ : Int32 → Prop)  (hf : wp_X5_turnComesAhead N n_p0 x1 x2 f_p0 Φ) : Met l yX5_turnComesAhead wsX5_turnComesAhead zr_X5_turnComesAhead (zPc (dC, dI) (zT cI cC cS) [.ref q_p0, .int x1, .int x2] sz (zW_X5_turnComesAhead cI cC cS q_p0 n_p0 f_p0)) (zQi (dC, dI) (zT cI cC cS) (va_A (zW_X5_turnComesAhead cI cC cS q_p0 n_p0 f_p0) sz) (fun (r : Int32) (u : Unit) => Φ r) (fun u => (zW_X5_turnComesAhead cI cC cS q_p0 n_p0 f_p0))) 0 0 (va_A (zW_X5_turnComesAhead cI cC cS q_p0 n_p0 f_p0) sz) := by
  refine Met.ofW (cc := cX5_turnComesAhead) (maxL := 5) (ret := (some .boolean)) (by decide) rfl ?_
  intro p e s m args below meth c s₁ B hml hv
  obtain ⟨rfl, hsz, hP, hK, hD0⟩ := hv
  have hx := B.exec
  have hb := B.bytes
  have hr := B.returns
  have hts := atoms_spec (ws := wsX5_turnComesAhead) B.pre
  have hown : s.vm.findClass RX5 = some m.cls := findClass_of_methodNamed B.named
  have hlocks := B.notSynchronized
  subst hsz
  have hD := hD0.self (sz := s.heap.size)
  have hA : ∀ q : Nat, s.heap.size ≤ q → va_A (zW_X5_turnComesAhead cI cC cS q_p0 n_p0 f_p0) s.heap.size q := fun q h => Or.inr h
  generalize va_A (zW_X5_turnComesAhead cI cC cS q_p0 n_p0 f_p0) s.heap.size = A at hD hA ⊢
  have hS : va_S A s.heap s.heap [] := va_S.rf
  have hl := lv_entry ([.ref q_p0, .int x1, .int x2]) (n := 5) (Nat.le_of_ble_eq_true rfl)
  rw [lg_entry_eq]
  generalize (lg_sl ([.ref q_p0, .int x1, .int x2]) ++ List.replicate (5 - (lg_sl ([.ref q_p0, .int x1, .int x2])).length) Slot.unset).toArray = ls at hl ⊢
  have hl : lv_has ls 5 [(0, .ref q_p0), (1, .int x1), (2, .int x2)] := hl
  have E21 : ∀ (x3 : Int32) (x4 : Int32), ∀ (H : Heap) (locs : List Loc) (ls : Array Slot), va_P (dC, dI) vwCl (zW_X5_turnComesAhead cI cC cS q_p0 n_p0 f_p0) H → va_D A (zW_X5_turnComesAhead cI cC cS q_p0 n_p0 f_p0) → va_S A s.heap H locs → lv_has ls 5 [(0, .ref q_p0), (3, .int x3), (4, .int x4)] → ex_X5_turnComesAhead_21 N n_p0 x3 x4 f_p0 Φ → W p l e (headSpec wsX5_turnComesAhead zr_X5_turnComesAhead).room s m ([.ref q_p0, .int x1, .int x2] : List Value).toArray below meth c H locs 0 0 (MQ below (zQi (dC, dI) (zT cI cC cS) A (fun (r : Int32) (u : Unit) => Φ r) (fun u => (zW_X5_turnComesAhead cI cC cS q_p0 n_p0 f_p0))) ([.ref q_p0, .int x1, .int x2] : List Value).toArray s 0 0 A) (F0 m 21 ls []) := by
    intro x3 x4 H locs ls hP hD hS hl hf
    unfold ex_X5_turnComesAhead_21 at hf
    refine lv_aload_n hx hb dX5_turnComesAhead_21 rfl (lv_at hl 0 rfl) ?_
    refine lv_iload_n hx hb dX5_turnComesAhead_22 rfl (lv_at hl 1 rfl) ?_
    refine va_iald hx hb hK hP 0 0 rfl rfl hf.1 dX5_turnComesAhead_23 ?_
    replace hf := hf.2
    refine lv_aload_n hx hb dX5_turnComesAhead_24 rfl (lv_at hl 0 rfl) ?_
    refine lv_iload hx hb dX5_turnComesAhead_25 (lv_at hl 2 rfl) ?_
    refine va_iald hx hb hK hP 0 0 rfl rfl hf.1 dX5_turnComesAhead_27 ?_
    replace hf := hf.2
    refine lv_icmp_ge (tgt := 35) hx hb dX5_turnComesAhead_28 (by decide) (fun c1 => ?_) (fun c1 => ?_)
    · replace hf := hf.1 c1
      refine lv_iconst (v := 0) hx hb dX5_turnComesAhead_35 (by decide) ?_
      exact z_zret hx hb hr rfl hlocks () hf hK hP hD hS dX5_turnComesAhead_36
    · replace hf := hf.2 c1
      refine lv_iconst (v := 1) hx hb dX5_turnComesAhead_31 (by decide) ?_
      refine lv_goto (tgt := 36) hx hb dX5_turnComesAhead_32 (by decide) ?_
      exact z_zret hx hb hr rfl hlocks () hf hK hP hD hS dX5_turnComesAhead_36
  have L5 : ∀ (n5 : Nat) (x3 : Int32) (x4 : Int32), ∀ (H : Heap) (locs : List Loc) (ls : Array Slot), va_P (dC, dI) vwCl (zW_X5_turnComesAhead cI cC cS q_p0 n_p0 f_p0) H → va_D A (zW_X5_turnComesAhead cI cC cS q_p0 n_p0 f_p0) → va_S A s.heap H locs → lv_has ls 5 [(0, .ref q_p0), (1, .int x1), (3, .int x3), (4, .int x4)] → lp_X5_turnComesAhead_5 N n_p0 x1 f_p0 Φ (fun x3h5 x4h5 => ex_X5_turnComesAhead_21 N n_p0 x3h5 x4h5 f_p0 Φ) n5 x3 x4 → W p l e (headSpec wsX5_turnComesAhead zr_X5_turnComesAhead).room s m ([.ref q_p0, .int x1, .int x2] : List Value).toArray below meth c H locs 0 0 (MQ below (zQi (dC, dI) (zT cI cC cS) A (fun (r : Int32) (u : Unit) => Φ r) (fun u => (zW_X5_turnComesAhead cI cC cS q_p0 n_p0 f_p0))) ([.ref q_p0, .int x1, .int x2] : List Value).toArray s 0 0 A) (F0 m 5 ls []) := by
    intro n5
    induction n5 with
    | zero =>
      intro x3 x4 H locs ls hP hD hS hl hf
      exact absurd hf (by rw [lp_X5_turnComesAhead_5]; exact id)
    | succ n5 ih5 =>
      intro x3 x4 H locs ls hP hD hS hl hf
      rw [lp_X5_turnComesAhead_5] at hf
      refine lv_iload hx hb dX5_turnComesAhead_5 (lv_at hl 3 rfl) ?_
      refine lv_iload_n hx hb dX5_turnComesAhead_7 rfl (lv_at hl 1 rfl) ?_
      refine lv_icmp_ge (tgt := 53) hx hb dX5_turnComesAhead_8 (by decide) (fun c2 => ?_) (fun c2 => ?_)
      · replace hf := hf.1 c2
        refine lv_iconst (v := 0) hx hb dX5_turnComesAhead_53 (by decide) ?_
        exact z_zret hx hb hr rfl hlocks () hf hK hP hD hS dX5_turnComesAhead_54
      · replace hf := hf.2 c2
        refine lv_aload_n hx hb dX5_turnComesAhead_11 rfl (lv_at hl 0 rfl) ?_
        refine lv_iload_n hx hb dX5_turnComesAhead_12 rfl (lv_at hl 2 rfl) ?_
        refine va_iald hx hb hK hP 0 0 rfl rfl hf.1 dX5_turnComesAhead_13 ?_
        replace hf := hf.2
        refine lv_aload_n hx hb dX5_turnComesAhead_14 rfl (lv_at hl 0 rfl) ?_
        refine lv_iload hx hb dX5_turnComesAhead_15 (lv_at hl 3 rfl) ?_
        refine va_iald hx hb hK hP 0 0 rfl rfl hf.1 dX5_turnComesAhead_17 ?_
        replace hf := hf.2
        refine lv_icmp_eq (tgt := 37) hx hb dX5_turnComesAhead_18 (by decide) (fun c3 => ?_) (fun c3 => ?_)
        · replace hf := hf.1 c3
          refine lv_iinc (v := (x3 + 1)) (lv' := [(3, .int (x3 + 1)), (0, .ref q_p0), (1, .int x1), (4, .int x4)]) hx hb dX5_turnComesAhead_37 hl (k := 2) rfl (by rfl) (by decide) rfl (fun ls hl => ?_)
          refine lv_iload_n hx hb dX5_turnComesAhead_40 rfl (lv_at hl 0 rfl) ?_
          refine lv_iload_n hx hb dX5_turnComesAhead_41 rfl (lv_at hl 2 rfl) ?_
          refine lv_icmp_ne (tgt := 47) hx hb dX5_turnComesAhead_42 (by decide) (fun c4 => ?_) (fun c4 => ?_)
          · replace hf := hf.2 c4
            refine lv_iinc (v := (x4 + 1)) (lv' := [(4, .int (x4 + 1)), (3, .int (x3 + 1)), (0, .ref q_p0), (1, .int x1)]) hx hb dX5_turnComesAhead_47 hl (k := 3) rfl (by rfl) (by decide) rfl (fun ls hl => ?_)
            refine lv_goto (tgt := 5) hx hb dX5_turnComesAhead_50 (by decide) ?_
            exact ih5 (x3 + 1) (x4 + 1) _ _ _ hP hD hS (lv_sub hl [2, 3, 1, 0] rfl) hf
          · replace hf := hf.1 c4
            refine lv_iconst (v := 0) hx hb dX5_turnComesAhead_45 (by decide) ?_
            refine lv_istore_n (lv' := [(3, .int 0), (0, .ref q_p0), (1, .int x1), (4, .int x4)]) hx hb dX5_turnComesAhead_46 rfl hl (by decide) rfl (fun ls hl => ?_)
            refine lv_iinc (v := (x4 + 1)) (lv' := [(4, .int (x4 + 1)), (3, .int 0), (0, .ref q_p0), (1, .int x1)]) hx hb dX5_turnComesAhead_47 hl (k := 3) rfl (by rfl) (by decide) rfl (fun ls hl => ?_)
            refine lv_goto (tgt := 5) hx hb dX5_turnComesAhead_50 (by decide) ?_
            exact ih5 0 (x4 + 1) _ _ _ hP hD hS (lv_sub hl [2, 3, 1, 0] rfl) hf
        · replace hf := hf.2 c3
          exact E21 x3 x4 _ _ _ hP hD hS (lv_sub hl [0, 2, 3] rfl) hf
  unfold wp_X5_turnComesAhead at hf
  refine lv_iload_n hx hb dX5_turnComesAhead_0 rfl (lv_at hl 2 rfl) ?_
  refine lv_istore_n (lv' := [(3, .int x2), (0, .ref q_p0), (1, .int x1), (2, .int x2)]) hx hb dX5_turnComesAhead_1 rfl hl (by decide) rfl (fun ls hl => ?_)
  refine lv_iconst (v := 0) hx hb dX5_turnComesAhead_2 (by decide) ?_
  refine lv_istore (lv' := [(4, .int 0), (3, .int x2), (0, .ref q_p0), (1, .int x1), (2, .int x2)]) hx hb dX5_turnComesAhead_3 hl (by decide) rfl (fun ls hl => ?_)
  exact L5  N x2 0 _ _ _ hP hD hS (lv_sub hl [2, 3, 1, 0] rfl) hf
def lp_X5_isFirstOfTurns_2 (N : Nat) (n_p0 : Nat) (x1 : Int32) (f_p0 : Nat → Int32) (Φ : Int32 → Prop) : Nat → Int32 → Prop
  | 0, _ => False
  | n + 1, x2 => 
    ((x1 ≤ x2 → Φ 1) ∧
     (¬ (x1 ≤ x2) → wp_X5_turnComesAhead N n_p0 x1 x2 f_p0 (fun r2 => 
     ((r2 = 0 → (lp_X5_isFirstOfTurns_2 N n_p0 x1 f_p0 Φ n) (x2 + 1)) ∧
     (¬ (r2 = 0) → Φ 0)))))
def wp_X5_isFirstOfTurns (N : Nat) (n_p0 : Nat) (x1 : Int32) (f_p0 : Nat → Int32) (Φ : Int32 → Prop) : Prop := 
    lp_X5_isFirstOfTurns_2 N n_p0 x1 f_p0 Φ N 1
abbrev zW_X5_isFirstOfTurns (cI cC cS : ClassId) (q_p0 : Nat) (n_p0 : Nat) (f_p0 : Nat → Int32) : va_W := [(q_p0, .inl (cI, n_p0, .inl f_p0))]
abbrev zr_X5_isFirstOfTurns : Room := { frames := 1, cells := 0, slots := 0, locals := 24 }
set_option maxHeartbeats 4000000 in
set_option maxRecDepth 100000 in
theorem c_X5_isFirstOfTurns (l : Launch) (dC : Nat → ClassId) (dI : Nat → Nat → Nat) (cI cC cS : ClassId) (q_p0 : Nat) (sz : Nat) (n_p0 : Nat) (f_p0 : Nat → Int32) (x1 : Int32) (N : Nat) (Φ : Int32 → Prop)  (hf : wp_X5_isFirstOfTurns N n_p0 x1 f_p0 Φ) : Met l yX5_isFirstOfTurns wsX5_isFirstOfTurns zr_X5_isFirstOfTurns (zPc (dC, dI) (zT cI cC cS) [.ref q_p0, .int x1] sz (zW_X5_isFirstOfTurns cI cC cS q_p0 n_p0 f_p0)) (zQi (dC, dI) (zT cI cC cS) (va_A (zW_X5_isFirstOfTurns cI cC cS q_p0 n_p0 f_p0) sz) (fun (r : Int32) (u : Unit) => Φ r) (fun u => (zW_X5_isFirstOfTurns cI cC cS q_p0 n_p0 f_p0))) 0 0 (va_A (zW_X5_isFirstOfTurns cI cC cS q_p0 n_p0 f_p0) sz) := by
  refine Met.ofW (cc := cX5_isFirstOfTurns) (maxL := 3) (ret := (some .boolean)) (by decide) rfl ?_
  intro p e s m args below meth c s₁ B hml hv
  obtain ⟨rfl, hsz, hP, hK, hD0⟩ := hv
  have hx := B.exec
  have hb := B.bytes
  have hr := B.returns
  have hts := atoms_spec (ws := wsX5_isFirstOfTurns) B.pre
  have hown : s.vm.findClass RX5 = some m.cls := findClass_of_methodNamed B.named
  have hlocks := B.notSynchronized
  subst hsz
  have hD := hD0.self (sz := s.heap.size)
  have hA : ∀ q : Nat, s.heap.size ≤ q → va_A (zW_X5_isFirstOfTurns cI cC cS q_p0 n_p0 f_p0) s.heap.size q := fun q h => Or.inr h
  generalize va_A (zW_X5_isFirstOfTurns cI cC cS q_p0 n_p0 f_p0) s.heap.size = A at hD hA ⊢
  have hS : va_S A s.heap s.heap [] := va_S.rf
  have hl := lv_entry ([.ref q_p0, .int x1]) (n := 3) (Nat.le_of_ble_eq_true rfl)
  rw [lg_entry_eq]
  generalize (lg_sl ([.ref q_p0, .int x1]) ++ List.replicate (3 - (lg_sl ([.ref q_p0, .int x1])).length) Slot.unset).toArray = ls at hl ⊢
  have hl : lv_has ls 3 [(0, .ref q_p0), (1, .int x1)] := hl
  have L2 : ∀ (n2 : Nat) (x2 : Int32), ∀ (H : Heap) (locs : List Loc) (ls : Array Slot), va_P (dC, dI) vwCl (zW_X5_isFirstOfTurns cI cC cS q_p0 n_p0 f_p0) H → va_D A (zW_X5_isFirstOfTurns cI cC cS q_p0 n_p0 f_p0) → va_S A s.heap H locs → lv_has ls 3 [(0, .ref q_p0), (1, .int x1), (2, .int x2)] → lp_X5_isFirstOfTurns_2 N n_p0 x1 f_p0 Φ n2 x2 → W p l e (headSpec wsX5_isFirstOfTurns zr_X5_isFirstOfTurns).room s m ([.ref q_p0, .int x1] : List Value).toArray below meth c H locs 0 0 (MQ below (zQi (dC, dI) (zT cI cC cS) A (fun (r : Int32) (u : Unit) => Φ r) (fun u => (zW_X5_isFirstOfTurns cI cC cS q_p0 n_p0 f_p0))) ([.ref q_p0, .int x1] : List Value).toArray s 0 0 A) (F0 m 2 ls []) := by
    intro n2
    induction n2 with
    | zero =>
      intro x2 H locs ls hP hD hS hl hf
      exact absurd hf (by rw [lp_X5_isFirstOfTurns_2]; exact id)
    | succ n2 ih2 =>
      intro x2 H locs ls hP hD hS hl hf
      rw [lp_X5_isFirstOfTurns_2] at hf
      refine lv_iload_n hx hb dX5_isFirstOfTurns_2 rfl (lv_at hl 2 rfl) ?_
      refine lv_iload_n hx hb dX5_isFirstOfTurns_3 rfl (lv_at hl 1 rfl) ?_
      refine lv_icmp_ge (tgt := 24) hx hb dX5_isFirstOfTurns_4 (by decide) (fun c1 => ?_) (fun c1 => ?_)
      · replace hf := hf.1 c1
        refine lv_iconst (v := 1) hx hb dX5_isFirstOfTurns_24 (by decide) ?_
        exact z_zret hx hb hr rfl hlocks () hf hK hP hD hS dX5_isFirstOfTurns_25
      · replace hf := hf.2 c1
        refine lv_aload_n hx hb dX5_isFirstOfTurns_7 rfl (lv_at hl 0 rfl) ?_
        refine lv_iload_n hx hb dX5_isFirstOfTurns_8 rfl (lv_at hl 1 rfl) ?_
        refine lv_iload_n hx hb dX5_isFirstOfTurns_9 rfl (lv_at hl 2 rfl) ?_
        refine z_Si (n := 3) (As := [.ref q_p0, .int x1, .int x2]) (rest := []) ⟨hx, hb, hml, hown, hts⟩ (c_X5_turnComesAhead l dC dI cI cC cS q_p0 _ n_p0 f_p0 x1 x2 N _  hf) gX5_isFirstOfTurns_X5_turnComesAhead rfl rfl rfl (by decide +kernel) ⟨Nat.le_of_ble_eq_true rfl, Nat.le_of_ble_eq_true rfl⟩ hK hP hD hS hA rfl hl.1 rfl (Nat.le_of_ble_eq_true rfl) dX5_isFirstOfTurns_10 ⟨Nat.zero_le _, Nat.zero_le _⟩ [0] [] (([] : va_W)) rfl rfl (by decide) (by decide) (by decide) (fun u => (zW_X5_isFirstOfTurns cI cC cS q_p0 n_p0 f_p0)) [0] (fun u => rfl) (by decide) (fun r2 u2 H locs hf hP hD hS => ?_)
        have hP : va_P (dC, dI) vwCl (zW_X5_isFirstOfTurns cI cC cS q_p0 n_p0 f_p0) H := hP
        have hD : va_D A (zW_X5_isFirstOfTurns cI cC cS q_p0 n_p0 f_p0) := hD
        refine lv_if_eq (tgt := 18) hx hb dX5_isFirstOfTurns_13 (by decide) (fun c3 => ?_) (fun c3 => ?_)
        · replace hf := hf.1 c3
          refine lv_iinc (v := (x2 + 1)) (lv' := [(2, .int (x2 + 1)), (0, .ref q_p0), (1, .int x1)]) hx hb dX5_isFirstOfTurns_18 hl (k := 2) rfl (by rfl) (by decide) rfl (fun ls hl => ?_)
          refine lv_goto (tgt := 2) hx hb dX5_isFirstOfTurns_21 (by decide) ?_
          exact ih2 (x2 + 1) _ _ _ hP hD hS (lv_sub hl [1, 2, 0] rfl) hf
        · replace hf := hf.2 c3
          refine lv_iconst (v := 0) hx hb dX5_isFirstOfTurns_16 (by decide) ?_
          exact z_zret hx hb hr rfl hlocks () hf hK hP hD hS dX5_isFirstOfTurns_17
  unfold wp_X5_isFirstOfTurns at hf
  refine lv_iconst (v := 1) hx hb dX5_isFirstOfTurns_0 (by decide) ?_
  refine lv_istore_n (lv' := [(2, .int 1), (0, .ref q_p0), (1, .int x1)]) hx hb dX5_isFirstOfTurns_1 rfl hl (by decide) rfl (fun ls hl => ?_)
  exact L2  N 1 _ _ _ hP hD hS (lv_sub hl [1, 2, 0] rfl) hf
def wp_X2_add (N : Nat) (x1 : Int32) (v_this_many : Int32) (f_this_signs : Nat → Int32) (Φ : Int32 → Int32 → (Nat → Int32) → Prop) : Prop := 
    ((64 ≤ v_this_many → Φ v_this_many v_this_many f_this_signs) ∧
     (¬ (64 ≤ v_this_many) → (vp_in v_this_many 64 ∧ Φ (v_this_many + 1) (v_this_many + 1) (upd f_this_signs (Int32.toNatClampNeg v_this_many) x1))))
abbrev zW_X2_add (cI cC cS : ClassId) (q_this : Nat) (q_this_signs : Nat) (v_this_many : Int32) (f_this_signs : Nat → Int32) : va_W := [(q_this, .inr (2, [.ref q_this_signs, .int v_this_many])),
  (q_this_signs, .inl (cI, 64, .inl f_this_signs))]
abbrev zr_X2_add : Room := { frames := 0, cells := 0, slots := 0, locals := 0 }
set_option maxHeartbeats 4000000 in
set_option maxRecDepth 100000 in
theorem c_X2_add (l : Launch) (dC : Nat → ClassId) (dI : Nat → Nat → Nat) (cI cC cS : ClassId) (q_this : Nat) (q_this_signs : Nat) (sz : Nat) (v_this_many : Int32) (f_this_signs : Nat → Int32) (x1 : Int32) (N : Nat) (Φ : Int32 → Int32 → (Nat → Int32) → Prop)  (hf : wp_X2_add N x1 v_this_many f_this_signs Φ) : Met l yX2_add wsX2_add zr_X2_add (zPc (dC, dI) (zT cI cC cS) [.ref q_this, .int x1] sz (zW_X2_add cI cC cS q_this q_this_signs v_this_many f_this_signs)) (zQi (dC, dI) (zT cI cC cS) (va_A (zW_X2_add cI cC cS q_this q_this_signs v_this_many f_this_signs) sz) (fun (r : Int32) (u : (Int32) × (Nat → Int32)) => Φ r u.1 u.2) (fun u => (zW_X2_add cI cC cS q_this q_this_signs u.1 u.2))) 0 0 (va_A (zW_X2_add cI cC cS q_this q_this_signs v_this_many f_this_signs) sz) := by
  refine Met.ofW (cc := cX2_add) (maxL := 2) (ret := (some .int)) (by decide) rfl ?_
  intro p e s m args below meth c s₁ B hml hv
  obtain ⟨rfl, hsz, hP, hK, hD0⟩ := hv
  have hx := B.exec
  have hb := B.bytes
  have hr := B.returns
  have hts := atoms_spec (ws := wsX2_add) B.pre
  have hown : s.vm.findClass RX2 = some m.cls := findClass_of_methodNamed B.named
  have hlocks := B.notSynchronized
  subst hsz
  have hD := hD0.self (sz := s.heap.size)
  have hA : ∀ q : Nat, s.heap.size ≤ q → va_A (zW_X2_add cI cC cS q_this q_this_signs v_this_many f_this_signs) s.heap.size q := fun q h => Or.inr h
  generalize va_A (zW_X2_add cI cC cS q_this q_this_signs v_this_many f_this_signs) s.heap.size = A at hD hA ⊢
  have hS : va_S A s.heap s.heap [] := va_S.rf
  have hl := lv_entry ([.ref q_this, .int x1]) (n := 2) (Nat.le_of_ble_eq_true rfl)
  rw [lg_entry_eq]
  generalize (lg_sl ([.ref q_this, .int x1]) ++ List.replicate (2 - (lg_sl ([.ref q_this, .int x1])).length) Slot.unset).toArray = ls at hl ⊢
  have hl : lv_has ls 2 [(0, .ref q_this), (1, .int x1)] := hl
  have lk1 := hts (.fieldLink RX2 15 "ReadFromAnywhere$Letters" "many" "I") (List.mem_of_getElem? (i := 1) rfl)
  have inX2 : ∀ w ∈ u_ws RX2 TX2 2, w ∈ wsX2_add := fun _ h => List.mem_cons_of_mem _ (List.mem_append_right _ h)
  have lk2 := hts (.fieldLink RX2 9 "ReadFromAnywhere$Letters" "signs" "[I") (List.mem_of_getElem? (i := 2) rfl)
  unfold wp_X2_add at hf
  refine lv_aload_n hx hb dX2_add_0 rfl (lv_at hl 0 rfl) ?_
  refine va_get (D := (dC, dI)) (ci := 2) (v := .int v_this_many) (C := RX2) (T := TX2) (N := 2) hx hb hts inX2 hown hK hP 0 rfl rfl 1 (by decide) lk1 (fun _ h9 => h9) rfl dX2_add_1 ?_
  refine lv_bipush (v := 64) hx hb dX2_add_4 (by decide) ?_
  refine lv_icmp_ge (tgt := 29) hx hb dX2_add_6 (by decide) (fun c1 => ?_) (fun c1 => ?_)
  · replace hf := hf.1 c1
    refine lv_aload_n hx hb dX2_add_29 rfl (lv_at hl 0 rfl) ?_
    refine va_get (D := (dC, dI)) (ci := 2) (v := .int v_this_many) (C := RX2) (T := TX2) (N := 2) hx hb hts inX2 hown hK hP 0 rfl rfl 1 (by decide) lk1 (fun _ h9 => h9) rfl dX2_add_30 ?_
    exact z_iret hx hb hr hlocks (v_this_many, f_this_signs) hf hK hP hD hS dX2_add_33
  · replace hf := hf.2 c1
    refine lv_aload_n hx hb dX2_add_9 rfl (lv_at hl 0 rfl) ?_
    refine va_get (D := (dC, dI)) (ci := 2) (v := .ref q_this_signs) (C := RX2) (T := TX2) (N := 2) hx hb hts inX2 hown hK hP 0 rfl rfl 0 (by decide) lk2 (fun _ h9 => h9) rfl dX2_add_10 ?_
    refine lv_aload_n hx hb dX2_add_13 rfl (lv_at hl 0 rfl) ?_
    refine va_get (D := (dC, dI)) (ci := 2) (v := .int v_this_many) (C := RX2) (T := TX2) (N := 2) hx hb hts inX2 hown hK hP 0 rfl rfl 1 (by decide) lk1 (fun _ h9 => h9) rfl dX2_add_14 ?_
    refine lv_iload_n hx hb dX2_add_17 rfl (lv_at hl 1 rfl) ?_
    refine va_iast hx hb hK hP hD hS 1 0 rfl rfl hf.1 dX2_add_18 (fun H locs hP hD hS => ?_)
    replace hf := hf.2
    have hP : va_P (dC, dI) vwCl (zW_X2_add cI cC cS q_this q_this_signs v_this_many (upd f_this_signs (Int32.toNatClampNeg v_this_many) x1)) H := hP
    have hD : va_D A (zW_X2_add cI cC cS q_this q_this_signs v_this_many (upd f_this_signs (Int32.toNatClampNeg v_this_many) x1)) := hD
    refine lv_aload_n hx hb dX2_add_19 rfl (lv_at hl 0 rfl) ?_
    refine lv_dup hx hb dX2_add_20 rfl ?_
    refine va_get (D := (dC, dI)) (ci := 2) (v := .int v_this_many) (C := RX2) (T := TX2) (N := 2) hx hb hts inX2 hown hK hP 0 rfl rfl 1 (by decide) lk1 (fun _ h9 => h9) rfl dX2_add_21 ?_
    refine lv_iconst (v := 1) hx hb dX2_add_24 (by decide) ?_
    refine lv_iadd hx hb dX2_add_25 ?_
    refine va_put (D := (dC, dI)) (ci := 2) (v := .int (v_this_many + 1)) (ty := .int) (C := RX2) (T := TX2) (N := 2) hx hb hts inX2 tyX2 tyX2_ok nmX2 hown hK hP hD hS 0 rfl rfl 1 (by decide) lk1 (fun _ h9 => h9) rfl (by decide +kernel) rfl rfl (Nat.le_of_ble_eq_true rfl) dX2_add_26 (fun H locs hP hD hS => ?_)
    have hP : va_P (dC, dI) vwCl (zW_X2_add cI cC cS q_this q_this_signs (v_this_many + 1) (upd f_this_signs (Int32.toNatClampNeg v_this_many) x1)) H := hP
    have hD : va_D A (zW_X2_add cI cC cS q_this q_this_signs (v_this_many + 1) (upd f_this_signs (Int32.toNatClampNeg v_this_many) x1)) := hD
    refine lv_aload_n hx hb dX2_add_29 rfl (lv_at hl 0 rfl) ?_
    refine va_get (D := (dC, dI)) (ci := 2) (v := .int (v_this_many + 1)) (C := RX2) (T := TX2) (N := 2) hx hb hts inX2 hown hK hP 0 rfl rfl 1 (by decide) lk1 (fun _ h9 => h9) rfl dX2_add_30 ?_
    exact z_iret hx hb hr hlocks ((v_this_many + 1), (upd f_this_signs (Int32.toNatClampNeg v_this_many) x1)) hf hK hP hD hS dX2_add_33
def wp_X2_signAt (N : Nat) (x1 : Int32) (v_this_many : Int32) (f_this_signs : Nat → Int32) (Φ : Int32 → Prop) : Prop := 
    ((x1 < 0 → Φ (-1)) ∧
     (¬ (x1 < 0) → ((v_this_many ≤ x1 → Φ (-1)) ∧
     (¬ (v_this_many ≤ x1) → (vp_in x1 64 ∧ Φ (f_this_signs (Int32.toNatClampNeg x1)))))))
abbrev zW_X2_signAt (cI cC cS : ClassId) (q_this : Nat) (q_this_signs : Nat) (v_this_many : Int32) (f_this_signs : Nat → Int32) : va_W := [(q_this, .inr (2, [.ref q_this_signs, .int v_this_many])),
  (q_this_signs, .inl (cI, 64, .inl f_this_signs))]
abbrev zr_X2_signAt : Room := { frames := 0, cells := 0, slots := 0, locals := 0 }
set_option maxHeartbeats 4000000 in
set_option maxRecDepth 100000 in
theorem c_X2_signAt (l : Launch) (dC : Nat → ClassId) (dI : Nat → Nat → Nat) (cI cC cS : ClassId) (q_this : Nat) (q_this_signs : Nat) (sz : Nat) (v_this_many : Int32) (f_this_signs : Nat → Int32) (x1 : Int32) (N : Nat) (Φ : Int32 → Prop)  (hf : wp_X2_signAt N x1 v_this_many f_this_signs Φ) : Met l yX2_signAt wsX2_signAt zr_X2_signAt (zPc (dC, dI) (zT cI cC cS) [.ref q_this, .int x1] sz (zW_X2_signAt cI cC cS q_this q_this_signs v_this_many f_this_signs)) (zQi (dC, dI) (zT cI cC cS) (va_A (zW_X2_signAt cI cC cS q_this q_this_signs v_this_many f_this_signs) sz) (fun (r : Int32) (u : Unit) => Φ r) (fun u => (zW_X2_signAt cI cC cS q_this q_this_signs v_this_many f_this_signs))) 0 0 (va_A (zW_X2_signAt cI cC cS q_this q_this_signs v_this_many f_this_signs) sz) := by
  refine Met.ofW (cc := cX2_signAt) (maxL := 2) (ret := (some .int)) (by decide) rfl ?_
  intro p e s m args below meth c s₁ B hml hv
  obtain ⟨rfl, hsz, hP, hK, hD0⟩ := hv
  have hx := B.exec
  have hb := B.bytes
  have hr := B.returns
  have hts := atoms_spec (ws := wsX2_signAt) B.pre
  have hown : s.vm.findClass RX2 = some m.cls := findClass_of_methodNamed B.named
  have hlocks := B.notSynchronized
  subst hsz
  have hD := hD0.self (sz := s.heap.size)
  have hA : ∀ q : Nat, s.heap.size ≤ q → va_A (zW_X2_signAt cI cC cS q_this q_this_signs v_this_many f_this_signs) s.heap.size q := fun q h => Or.inr h
  generalize va_A (zW_X2_signAt cI cC cS q_this q_this_signs v_this_many f_this_signs) s.heap.size = A at hD hA ⊢
  have hS : va_S A s.heap s.heap [] := va_S.rf
  have hl := lv_entry ([.ref q_this, .int x1]) (n := 2) (Nat.le_of_ble_eq_true rfl)
  rw [lg_entry_eq]
  generalize (lg_sl ([.ref q_this, .int x1]) ++ List.replicate (2 - (lg_sl ([.ref q_this, .int x1])).length) Slot.unset).toArray = ls at hl ⊢
  have hl : lv_has ls 2 [(0, .ref q_this), (1, .int x1)] := hl
  have lk1 := hts (.fieldLink RX2 15 "ReadFromAnywhere$Letters" "many" "I") (List.mem_of_getElem? (i := 1) rfl)
  have inX2 : ∀ w ∈ u_ws RX2 TX2 2, w ∈ wsX2_signAt := fun _ h => List.mem_cons_of_mem _ (List.mem_append_right _ h)
  have lk2 := hts (.fieldLink RX2 9 "ReadFromAnywhere$Letters" "signs" "[I") (List.mem_of_getElem? (i := 2) rfl)
  unfold wp_X2_signAt at hf
  refine lv_iload_n hx hb dX2_signAt_0 rfl (lv_at hl 1 rfl) ?_
  refine lv_if_lt (tgt := 21) hx hb dX2_signAt_1 (by decide) (fun c1 => ?_) (fun c1 => ?_)
  · replace hf := hf.1 c1
    refine lv_iconst (v := (-1)) hx hb dX2_signAt_21 (by decide) ?_
    exact z_iret hx hb hr hlocks () hf hK hP hD hS dX2_signAt_22
  · replace hf := hf.2 c1
    refine lv_iload_n hx hb dX2_signAt_4 rfl (lv_at hl 1 rfl) ?_
    refine lv_aload_n hx hb dX2_signAt_5 rfl (lv_at hl 0 rfl) ?_
    refine va_get (D := (dC, dI)) (ci := 2) (v := .int v_this_many) (C := RX2) (T := TX2) (N := 2) hx hb hts inX2 hown hK hP 0 rfl rfl 1 (by decide) lk1 (fun _ h9 => h9) rfl dX2_signAt_6 ?_
    refine lv_icmp_ge (tgt := 21) hx hb dX2_signAt_9 (by decide) (fun c2 => ?_) (fun c2 => ?_)
    · replace hf := hf.1 c2
      refine lv_iconst (v := (-1)) hx hb dX2_signAt_21 (by decide) ?_
      exact z_iret hx hb hr hlocks () hf hK hP hD hS dX2_signAt_22
    · replace hf := hf.2 c2
      refine lv_aload_n hx hb dX2_signAt_12 rfl (lv_at hl 0 rfl) ?_
      refine va_get (D := (dC, dI)) (ci := 2) (v := .ref q_this_signs) (C := RX2) (T := TX2) (N := 2) hx hb hts inX2 hown hK hP 0 rfl rfl 0 (by decide) lk2 (fun _ h9 => h9) rfl dX2_signAt_13 ?_
      refine lv_iload_n hx hb dX2_signAt_16 rfl (lv_at hl 1 rfl) ?_
      refine va_iald hx hb hK hP 1 0 rfl rfl hf.1 dX2_signAt_17 ?_
      replace hf := hf.2
      refine lv_goto (tgt := 22) hx hb dX2_signAt_18 (by decide) ?_
      exact z_iret hx hb hr hlocks () hf hK hP hD hS dX2_signAt_22
def wp_X3_copyFrom (N : Nat) (v_this_many : Int32) (f_this_ones : Nat → Int32) (f_this_others : Nat → Int32) (v_p1_many : Int32) (f_p1_ones : Nat → Int32) (f_p1_others : Nat → Int32) (Φ : Int32 → (Nat → Int32) → (Nat → Int32) → Prop) : Prop := 
    Φ v_p1_many (va_cpy f_p1_ones f_this_ones (Int32.toNatClampNeg 0) (Int32.toNatClampNeg 0) (Int32.toNatClampNeg 12)) (va_cpy f_p1_others f_this_others (Int32.toNatClampNeg 0) (Int32.toNatClampNeg 0) (Int32.toNatClampNeg 12))
abbrev zW_X3_copyFrom (cI cC cS : ClassId) (q_this : Nat) (q_this_ones : Nat) (q_this_others : Nat) (q_p1 : Nat) (q_p1_ones : Nat) (q_p1_others : Nat) (v_this_many : Int32) (f_this_ones : Nat → Int32) (f_this_others : Nat → Int32) (v_p1_many : Int32) (f_p1_ones : Nat → Int32) (f_p1_others : Nat → Int32) : va_W := [(q_this, .inr (3, [.ref q_this_ones, .ref q_this_others, .int v_this_many])),
  (q_this_ones, .inl (cI, 12, .inl f_this_ones)),
  (q_this_others, .inl (cI, 12, .inl f_this_others)),
  (q_p1, .inr (3, [.ref q_p1_ones, .ref q_p1_others, .int v_p1_many])),
  (q_p1_ones, .inl (cI, 12, .inl f_p1_ones)),
  (q_p1_others, .inl (cI, 12, .inl f_p1_others))]
abbrev zr_X3_copyFrom : Room := { frames := 1, cells := 0, slots := 0, locals := 60 }
set_option maxHeartbeats 4000000 in
set_option maxRecDepth 100000 in
theorem c_X3_copyFrom (l : Launch) (dC : Nat → ClassId) (dI : Nat → Nat → Nat) (cI cC cS : ClassId) (q_this : Nat) (q_this_ones : Nat) (q_this_others : Nat) (q_p1 : Nat) (q_p1_ones : Nat) (q_p1_others : Nat) (sz : Nat) (v_this_many : Int32) (f_this_ones : Nat → Int32) (f_this_others : Nat → Int32) (v_p1_many : Int32) (f_p1_ones : Nat → Int32) (f_p1_others : Nat → Int32) (N : Nat) (Φ : Int32 → (Nat → Int32) → (Nat → Int32) → Prop)  (hf : wp_X3_copyFrom N v_this_many f_this_ones f_this_others v_p1_many f_p1_ones f_p1_others Φ) : Met l yX3_copyFrom wsX3_copyFrom zr_X3_copyFrom (zPc (dC, dI) (zT cI cC cS) [.ref q_this, .ref q_p1] sz (zW_X3_copyFrom cI cC cS q_this q_this_ones q_this_others q_p1 q_p1_ones q_p1_others v_this_many f_this_ones f_this_others v_p1_many f_p1_ones f_p1_others)) (zQv (dC, dI) (zT cI cC cS) (va_A (zW_X3_copyFrom cI cC cS q_this q_this_ones q_this_others q_p1 q_p1_ones q_p1_others v_this_many f_this_ones f_this_others v_p1_many f_p1_ones f_p1_others) sz) (fun (u : (Int32) × (Nat → Int32) × (Nat → Int32)) => Φ u.1 u.2.1 u.2.2) (fun u => (zW_X3_copyFrom cI cC cS q_this q_this_ones q_this_others q_p1 q_p1_ones q_p1_others u.1 u.2.1 u.2.2 v_p1_many f_p1_ones f_p1_others))) 0 0 (va_A (zW_X3_copyFrom cI cC cS q_this q_this_ones q_this_others q_p1 q_p1_ones q_p1_others v_this_many f_this_ones f_this_others v_p1_many f_p1_ones f_p1_others) sz) := by
  refine Met.ofW (cc := cX3_copyFrom) (maxL := 2) (ret := none) (by decide) rfl ?_
  intro p e s m args below meth c s₁ B hml hv
  obtain ⟨rfl, hsz, hP, hK, hD0⟩ := hv
  have hx := B.exec
  have hb := B.bytes
  have hr := B.returns
  have hts := atoms_spec (ws := wsX3_copyFrom) B.pre
  have hown : s.vm.findClass RX3 = some m.cls := findClass_of_methodNamed B.named
  have hlocks := B.notSynchronized
  subst hsz
  have hD := hD0.self (sz := s.heap.size)
  have hA : ∀ q : Nat, s.heap.size ≤ q → va_A (zW_X3_copyFrom cI cC cS q_this q_this_ones q_this_others q_p1 q_p1_ones q_p1_others v_this_many f_this_ones f_this_others v_p1_many f_p1_ones f_p1_others) s.heap.size q := fun q h => Or.inr h
  generalize va_A (zW_X3_copyFrom cI cC cS q_this q_this_ones q_this_others q_p1 q_p1_ones q_p1_others v_this_many f_this_ones f_this_others v_p1_many f_p1_ones f_p1_others) s.heap.size = A at hD hA ⊢
  have hS : va_S A s.heap s.heap [] := va_S.rf
  have hl := lv_entry ([.ref q_this, .ref q_p1]) (n := 2) (Nat.le_of_ble_eq_true rfl)
  rw [lg_entry_eq]
  generalize (lg_sl ([.ref q_this, .ref q_p1]) ++ List.replicate (2 - (lg_sl ([.ref q_this, .ref q_p1])).length) Slot.unset).toArray = ls at hl ⊢
  have hl : lv_has ls 2 [(0, .ref q_this), (1, .ref q_p1)] := hl
  have lk1 := hts (.fieldLink RX3 9 "ReadFromAnywhere$Pairs" "ones" "[I") (List.mem_of_getElem? (i := 1) rfl)
  have inX3 : ∀ w ∈ u_ws RX3 TX3 3, w ∈ wsX3_copyFrom := fun _ h => List.mem_cons_of_mem _ (List.mem_append_right _ h)
  have lk3 := hts (.native arraycopyName) (List.mem_of_getElem? (i := 3) rfl)
  have lk4 := hts (.static arraycopyName) (List.mem_of_getElem? (i := 4) rfl)
  have lk5 := hts (.initialized "java/lang/System") (List.mem_of_getElem? (i := 5) rfl)
  have lk2 := hts (.methodLink RX3 22 arraycopyName) (List.mem_of_getElem? (i := 2) rfl)
  have lk6 := hts (.fieldLink RX3 15 "ReadFromAnywhere$Pairs" "others" "[I") (List.mem_of_getElem? (i := 6) rfl)
  have lk7 := hts (.fieldLink RX3 18 "ReadFromAnywhere$Pairs" "many" "I") (List.mem_of_getElem? (i := 7) rfl)
  unfold wp_X3_copyFrom at hf
  refine lv_aload_n hx hb dX3_copyFrom_0 rfl (lv_at hl 1 rfl) ?_
  refine va_get (D := (dC, dI)) (ci := 3) (v := .ref q_p1_ones) (C := RX3) (T := TX3) (N := 3) hx hb hts inX3 hown hK hP 3 rfl rfl 0 (by decide) lk1 (fun _ h9 => h9) rfl dX3_copyFrom_1 ?_
  refine lv_iconst (v := 0) hx hb dX3_copyFrom_4 (by decide) ?_
  refine lv_aload_n hx hb dX3_copyFrom_5 rfl (lv_at hl 0 rfl) ?_
  refine va_get (D := (dC, dI)) (ci := 3) (v := .ref q_this_ones) (C := RX3) (T := TX3) (N := 3) hx hb hts inX3 hown hK hP 0 rfl rfl 0 (by decide) lk1 (fun _ h9 => h9) rfl dX3_copyFrom_6 ?_
  refine lv_iconst (v := 0) hx hb dX3_copyFrom_9 (by decide) ?_
  refine lv_bipush (v := 12) hx hb dX3_copyFrom_10 (by decide) ?_
  refine va_copyi (ty := .int) (sp := 0) (dp := 0) (n := 12) hx hb (hml.trans hl.1.symm) hown lk2 lk3 lk4 lk5 hK hP hD hS 4 1 0 0 rfl rfl rfl rfl rfl (by decide) (by decide) (by decide) (by decide) (by decide) (fun _ _ => rfl) (Nat.le_of_ble_eq_true rfl) (Nat.le_of_ble_eq_true rfl) dX3_copyFrom_12 (fun H locs hP hD hS => ?_)
  have hP : va_P (dC, dI) vwCl (zW_X3_copyFrom cI cC cS q_this q_this_ones q_this_others q_p1 q_p1_ones q_p1_others v_this_many (va_cpy f_p1_ones f_this_ones (Int32.toNatClampNeg 0) (Int32.toNatClampNeg 0) (Int32.toNatClampNeg 12)) f_this_others v_p1_many f_p1_ones f_p1_others) H := hP
  have hD : va_D A (zW_X3_copyFrom cI cC cS q_this q_this_ones q_this_others q_p1 q_p1_ones q_p1_others v_this_many (va_cpy f_p1_ones f_this_ones (Int32.toNatClampNeg 0) (Int32.toNatClampNeg 0) (Int32.toNatClampNeg 12)) f_this_others v_p1_many f_p1_ones f_p1_others) := hD
  refine lv_aload_n hx hb dX3_copyFrom_15 rfl (lv_at hl 1 rfl) ?_
  refine va_get (D := (dC, dI)) (ci := 3) (v := .ref q_p1_others) (C := RX3) (T := TX3) (N := 3) hx hb hts inX3 hown hK hP 3 rfl rfl 1 (by decide) lk6 (fun _ h9 => h9) rfl dX3_copyFrom_16 ?_
  refine lv_iconst (v := 0) hx hb dX3_copyFrom_19 (by decide) ?_
  refine lv_aload_n hx hb dX3_copyFrom_20 rfl (lv_at hl 0 rfl) ?_
  refine va_get (D := (dC, dI)) (ci := 3) (v := .ref q_this_others) (C := RX3) (T := TX3) (N := 3) hx hb hts inX3 hown hK hP 0 rfl rfl 1 (by decide) lk6 (fun _ h9 => h9) rfl dX3_copyFrom_21 ?_
  refine lv_iconst (v := 0) hx hb dX3_copyFrom_24 (by decide) ?_
  refine lv_bipush (v := 12) hx hb dX3_copyFrom_25 (by decide) ?_
  refine va_copyi (ty := .int) (sp := 0) (dp := 0) (n := 12) hx hb (hml.trans hl.1.symm) hown lk2 lk3 lk4 lk5 hK hP hD hS 5 2 0 0 rfl rfl rfl rfl rfl (by decide) (by decide) (by decide) (by decide) (by decide) (fun _ _ => rfl) (Nat.le_of_ble_eq_true rfl) (Nat.le_of_ble_eq_true rfl) dX3_copyFrom_27 (fun H locs hP hD hS => ?_)
  have hP : va_P (dC, dI) vwCl (zW_X3_copyFrom cI cC cS q_this q_this_ones q_this_others q_p1 q_p1_ones q_p1_others v_this_many (va_cpy f_p1_ones f_this_ones (Int32.toNatClampNeg 0) (Int32.toNatClampNeg 0) (Int32.toNatClampNeg 12)) (va_cpy f_p1_others f_this_others (Int32.toNatClampNeg 0) (Int32.toNatClampNeg 0) (Int32.toNatClampNeg 12)) v_p1_many f_p1_ones f_p1_others) H := hP
  have hD : va_D A (zW_X3_copyFrom cI cC cS q_this q_this_ones q_this_others q_p1 q_p1_ones q_p1_others v_this_many (va_cpy f_p1_ones f_this_ones (Int32.toNatClampNeg 0) (Int32.toNatClampNeg 0) (Int32.toNatClampNeg 12)) (va_cpy f_p1_others f_this_others (Int32.toNatClampNeg 0) (Int32.toNatClampNeg 0) (Int32.toNatClampNeg 12)) v_p1_many f_p1_ones f_p1_others) := hD
  refine lv_aload_n hx hb dX3_copyFrom_30 rfl (lv_at hl 0 rfl) ?_
  refine lv_aload_n hx hb dX3_copyFrom_31 rfl (lv_at hl 1 rfl) ?_
  refine va_get (D := (dC, dI)) (ci := 3) (v := .int v_p1_many) (C := RX3) (T := TX3) (N := 3) hx hb hts inX3 hown hK hP 3 rfl rfl 2 (by decide) lk7 (fun _ h9 => h9) rfl dX3_copyFrom_32 ?_
  refine va_put (D := (dC, dI)) (ci := 3) (v := .int v_p1_many) (ty := .int) (C := RX3) (T := TX3) (N := 3) hx hb hts inX3 tyX3 tyX3_ok nmX3 hown hK hP hD hS 0 rfl rfl 2 (by decide) lk7 (fun _ h9 => h9) rfl (by decide +kernel) rfl rfl (Nat.le_of_ble_eq_true rfl) dX3_copyFrom_35 (fun H locs hP hD hS => ?_)
  have hP : va_P (dC, dI) vwCl (zW_X3_copyFrom cI cC cS q_this q_this_ones q_this_others q_p1 q_p1_ones q_p1_others v_p1_many (va_cpy f_p1_ones f_this_ones (Int32.toNatClampNeg 0) (Int32.toNatClampNeg 0) (Int32.toNatClampNeg 12)) (va_cpy f_p1_others f_this_others (Int32.toNatClampNeg 0) (Int32.toNatClampNeg 0) (Int32.toNatClampNeg 12)) v_p1_many f_p1_ones f_p1_others) H := hP
  have hD : va_D A (zW_X3_copyFrom cI cC cS q_this q_this_ones q_this_others q_p1 q_p1_ones q_p1_others v_p1_many (va_cpy f_p1_ones f_this_ones (Int32.toNatClampNeg 0) (Int32.toNatClampNeg 0) (Int32.toNatClampNeg 12)) (va_cpy f_p1_others f_this_others (Int32.toNatClampNeg 0) (Int32.toNatClampNeg 0) (Int32.toNatClampNeg 12)) v_p1_many f_p1_ones f_p1_others) := hD
  exact z_vret hx hb hr hlocks (v_p1_many, (va_cpy f_p1_ones f_this_ones (Int32.toNatClampNeg 0) (Int32.toNatClampNeg 0) (Int32.toNatClampNeg 12)), (va_cpy f_p1_others f_this_others (Int32.toNatClampNeg 0) (Int32.toNatClampNeg 0) (Int32.toNatClampNeg 12))) hf hK hP hD hS dX3_copyFrom_38
def wp_X3_add (N : Nat) (x1 : Int32) (x2 : Int32) (v_this_many : Int32) (f_this_ones : Nat → Int32) (f_this_others : Nat → Int32) (Φ : Int32 → Int32 → (Nat → Int32) → (Nat → Int32) → Prop) : Prop := 
    ((12 ≤ v_this_many → Φ v_this_many v_this_many f_this_ones f_this_others) ∧
     (¬ (12 ≤ v_this_many) → (vp_in v_this_many 12 ∧ (vp_in v_this_many 12 ∧ Φ (v_this_many + 1) (v_this_many + 1) (upd f_this_ones (Int32.toNatClampNeg v_this_many) x1) (upd f_this_others (Int32.toNatClampNeg v_this_many) x2)))))
abbrev zW_X3_add (cI cC cS : ClassId) (q_this : Nat) (q_this_ones : Nat) (q_this_others : Nat) (v_this_many : Int32) (f_this_ones : Nat → Int32) (f_this_others : Nat → Int32) : va_W := [(q_this, .inr (3, [.ref q_this_ones, .ref q_this_others, .int v_this_many])),
  (q_this_ones, .inl (cI, 12, .inl f_this_ones)),
  (q_this_others, .inl (cI, 12, .inl f_this_others))]
abbrev zr_X3_add : Room := { frames := 0, cells := 0, slots := 0, locals := 0 }
set_option maxHeartbeats 4000000 in
set_option maxRecDepth 100000 in
theorem c_X3_add (l : Launch) (dC : Nat → ClassId) (dI : Nat → Nat → Nat) (cI cC cS : ClassId) (q_this : Nat) (q_this_ones : Nat) (q_this_others : Nat) (sz : Nat) (v_this_many : Int32) (f_this_ones : Nat → Int32) (f_this_others : Nat → Int32) (x1 : Int32) (x2 : Int32) (N : Nat) (Φ : Int32 → Int32 → (Nat → Int32) → (Nat → Int32) → Prop)  (hf : wp_X3_add N x1 x2 v_this_many f_this_ones f_this_others Φ) : Met l yX3_add wsX3_add zr_X3_add (zPc (dC, dI) (zT cI cC cS) [.ref q_this, .int x1, .int x2] sz (zW_X3_add cI cC cS q_this q_this_ones q_this_others v_this_many f_this_ones f_this_others)) (zQi (dC, dI) (zT cI cC cS) (va_A (zW_X3_add cI cC cS q_this q_this_ones q_this_others v_this_many f_this_ones f_this_others) sz) (fun (r : Int32) (u : (Int32) × (Nat → Int32) × (Nat → Int32)) => Φ r u.1 u.2.1 u.2.2) (fun u => (zW_X3_add cI cC cS q_this q_this_ones q_this_others u.1 u.2.1 u.2.2))) 0 0 (va_A (zW_X3_add cI cC cS q_this q_this_ones q_this_others v_this_many f_this_ones f_this_others) sz) := by
  refine Met.ofW (cc := cX3_add) (maxL := 3) (ret := (some .int)) (by decide) rfl ?_
  intro p e s m args below meth c s₁ B hml hv
  obtain ⟨rfl, hsz, hP, hK, hD0⟩ := hv
  have hx := B.exec
  have hb := B.bytes
  have hr := B.returns
  have hts := atoms_spec (ws := wsX3_add) B.pre
  have hown : s.vm.findClass RX3 = some m.cls := findClass_of_methodNamed B.named
  have hlocks := B.notSynchronized
  subst hsz
  have hD := hD0.self (sz := s.heap.size)
  have hA : ∀ q : Nat, s.heap.size ≤ q → va_A (zW_X3_add cI cC cS q_this q_this_ones q_this_others v_this_many f_this_ones f_this_others) s.heap.size q := fun q h => Or.inr h
  generalize va_A (zW_X3_add cI cC cS q_this q_this_ones q_this_others v_this_many f_this_ones f_this_others) s.heap.size = A at hD hA ⊢
  have hS : va_S A s.heap s.heap [] := va_S.rf
  have hl := lv_entry ([.ref q_this, .int x1, .int x2]) (n := 3) (Nat.le_of_ble_eq_true rfl)
  rw [lg_entry_eq]
  generalize (lg_sl ([.ref q_this, .int x1, .int x2]) ++ List.replicate (3 - (lg_sl ([.ref q_this, .int x1, .int x2])).length) Slot.unset).toArray = ls at hl ⊢
  have hl : lv_has ls 3 [(0, .ref q_this), (1, .int x1), (2, .int x2)] := hl
  have lk1 := hts (.fieldLink RX3 18 "ReadFromAnywhere$Pairs" "many" "I") (List.mem_of_getElem? (i := 1) rfl)
  have inX3 : ∀ w ∈ u_ws RX3 TX3 3, w ∈ wsX3_add := fun _ h => List.mem_cons_of_mem _ (List.mem_append_right _ h)
  have lk2 := hts (.fieldLink RX3 9 "ReadFromAnywhere$Pairs" "ones" "[I") (List.mem_of_getElem? (i := 2) rfl)
  have lk3 := hts (.fieldLink RX3 15 "ReadFromAnywhere$Pairs" "others" "[I") (List.mem_of_getElem? (i := 3) rfl)
  unfold wp_X3_add at hf
  refine lv_aload_n hx hb dX3_add_0 rfl (lv_at hl 0 rfl) ?_
  refine va_get (D := (dC, dI)) (ci := 3) (v := .int v_this_many) (C := RX3) (T := TX3) (N := 3) hx hb hts inX3 hown hK hP 0 rfl rfl 2 (by decide) lk1 (fun _ h9 => h9) rfl dX3_add_1 ?_
  refine lv_bipush (v := 12) hx hb dX3_add_4 (by decide) ?_
  refine lv_icmp_ge (tgt := 39) hx hb dX3_add_6 (by decide) (fun c1 => ?_) (fun c1 => ?_)
  · replace hf := hf.1 c1
    refine lv_aload_n hx hb dX3_add_39 rfl (lv_at hl 0 rfl) ?_
    refine va_get (D := (dC, dI)) (ci := 3) (v := .int v_this_many) (C := RX3) (T := TX3) (N := 3) hx hb hts inX3 hown hK hP 0 rfl rfl 2 (by decide) lk1 (fun _ h9 => h9) rfl dX3_add_40 ?_
    exact z_iret hx hb hr hlocks (v_this_many, f_this_ones, f_this_others) hf hK hP hD hS dX3_add_43
  · replace hf := hf.2 c1
    refine lv_aload_n hx hb dX3_add_9 rfl (lv_at hl 0 rfl) ?_
    refine va_get (D := (dC, dI)) (ci := 3) (v := .ref q_this_ones) (C := RX3) (T := TX3) (N := 3) hx hb hts inX3 hown hK hP 0 rfl rfl 0 (by decide) lk2 (fun _ h9 => h9) rfl dX3_add_10 ?_
    refine lv_aload_n hx hb dX3_add_13 rfl (lv_at hl 0 rfl) ?_
    refine va_get (D := (dC, dI)) (ci := 3) (v := .int v_this_many) (C := RX3) (T := TX3) (N := 3) hx hb hts inX3 hown hK hP 0 rfl rfl 2 (by decide) lk1 (fun _ h9 => h9) rfl dX3_add_14 ?_
    refine lv_iload_n hx hb dX3_add_17 rfl (lv_at hl 1 rfl) ?_
    refine va_iast hx hb hK hP hD hS 1 0 rfl rfl hf.1 dX3_add_18 (fun H locs hP hD hS => ?_)
    replace hf := hf.2
    have hP : va_P (dC, dI) vwCl (zW_X3_add cI cC cS q_this q_this_ones q_this_others v_this_many (upd f_this_ones (Int32.toNatClampNeg v_this_many) x1) f_this_others) H := hP
    have hD : va_D A (zW_X3_add cI cC cS q_this q_this_ones q_this_others v_this_many (upd f_this_ones (Int32.toNatClampNeg v_this_many) x1) f_this_others) := hD
    refine lv_aload_n hx hb dX3_add_19 rfl (lv_at hl 0 rfl) ?_
    refine va_get (D := (dC, dI)) (ci := 3) (v := .ref q_this_others) (C := RX3) (T := TX3) (N := 3) hx hb hts inX3 hown hK hP 0 rfl rfl 1 (by decide) lk3 (fun _ h9 => h9) rfl dX3_add_20 ?_
    refine lv_aload_n hx hb dX3_add_23 rfl (lv_at hl 0 rfl) ?_
    refine va_get (D := (dC, dI)) (ci := 3) (v := .int v_this_many) (C := RX3) (T := TX3) (N := 3) hx hb hts inX3 hown hK hP 0 rfl rfl 2 (by decide) lk1 (fun _ h9 => h9) rfl dX3_add_24 ?_
    refine lv_iload_n hx hb dX3_add_27 rfl (lv_at hl 2 rfl) ?_
    refine va_iast hx hb hK hP hD hS 2 0 rfl rfl hf.1 dX3_add_28 (fun H locs hP hD hS => ?_)
    replace hf := hf.2
    have hP : va_P (dC, dI) vwCl (zW_X3_add cI cC cS q_this q_this_ones q_this_others v_this_many (upd f_this_ones (Int32.toNatClampNeg v_this_many) x1) (upd f_this_others (Int32.toNatClampNeg v_this_many) x2)) H := hP
    have hD : va_D A (zW_X3_add cI cC cS q_this q_this_ones q_this_others v_this_many (upd f_this_ones (Int32.toNatClampNeg v_this_many) x1) (upd f_this_others (Int32.toNatClampNeg v_this_many) x2)) := hD
    refine lv_aload_n hx hb dX3_add_29 rfl (lv_at hl 0 rfl) ?_
    refine lv_dup hx hb dX3_add_30 rfl ?_
    refine va_get (D := (dC, dI)) (ci := 3) (v := .int v_this_many) (C := RX3) (T := TX3) (N := 3) hx hb hts inX3 hown hK hP 0 rfl rfl 2 (by decide) lk1 (fun _ h9 => h9) rfl dX3_add_31 ?_
    refine lv_iconst (v := 1) hx hb dX3_add_34 (by decide) ?_
    refine lv_iadd hx hb dX3_add_35 ?_
    refine va_put (D := (dC, dI)) (ci := 3) (v := .int (v_this_many + 1)) (ty := .int) (C := RX3) (T := TX3) (N := 3) hx hb hts inX3 tyX3 tyX3_ok nmX3 hown hK hP hD hS 0 rfl rfl 2 (by decide) lk1 (fun _ h9 => h9) rfl (by decide +kernel) rfl rfl (Nat.le_of_ble_eq_true rfl) dX3_add_36 (fun H locs hP hD hS => ?_)
    have hP : va_P (dC, dI) vwCl (zW_X3_add cI cC cS q_this q_this_ones q_this_others (v_this_many + 1) (upd f_this_ones (Int32.toNatClampNeg v_this_many) x1) (upd f_this_others (Int32.toNatClampNeg v_this_many) x2)) H := hP
    have hD : va_D A (zW_X3_add cI cC cS q_this q_this_ones q_this_others (v_this_many + 1) (upd f_this_ones (Int32.toNatClampNeg v_this_many) x1) (upd f_this_others (Int32.toNatClampNeg v_this_many) x2)) := hD
    refine lv_aload_n hx hb dX3_add_39 rfl (lv_at hl 0 rfl) ?_
    refine va_get (D := (dC, dI)) (ci := 3) (v := .int (v_this_many + 1)) (C := RX3) (T := TX3) (N := 3) hx hb hts inX3 hown hK hP 0 rfl rfl 2 (by decide) lk1 (fun _ h9 => h9) rfl dX3_add_40 ?_
    exact z_iret hx hb hr hlocks ((v_this_many + 1), (upd f_this_ones (Int32.toNatClampNeg v_this_many) x1), (upd f_this_others (Int32.toNatClampNeg v_this_many) x2)) hf hK hP hD hS dX3_add_43
def lp_X3_has_2 (N : Nat) (x1 : Int32) (x2 : Int32) (v_this_many : Int32) (f_this_ones : Nat → Int32) (f_this_others : Nat → Int32) (Φ : Int32 → Prop) : Nat → Int32 → Prop
  | 0, _ => False
  | n + 1, x3 => 
    ((v_this_many ≤ x3 → Φ 0) ∧
     (¬ (v_this_many ≤ x3) → (vp_in x3 12 ∧ (((f_this_ones (Int32.toNatClampNeg x3)) = x1 → (vp_in x3 12 ∧ (((f_this_others (Int32.toNatClampNeg x3)) = x2 → Φ 1) ∧
     (¬ ((f_this_others (Int32.toNatClampNeg x3)) = x2) → (lp_X3_has_2 N x1 x2 v_this_many f_this_ones f_this_others Φ n) (x3 + 1))))) ∧
     (¬ ((f_this_ones (Int32.toNatClampNeg x3)) = x1) → (lp_X3_has_2 N x1 x2 v_this_many f_this_ones f_this_others Φ n) (x3 + 1))))))
def wp_X3_has (N : Nat) (x1 : Int32) (x2 : Int32) (v_this_many : Int32) (f_this_ones : Nat → Int32) (f_this_others : Nat → Int32) (Φ : Int32 → Prop) : Prop := 
    lp_X3_has_2 N x1 x2 v_this_many f_this_ones f_this_others Φ N 0
abbrev zW_X3_has (cI cC cS : ClassId) (q_this : Nat) (q_this_ones : Nat) (q_this_others : Nat) (v_this_many : Int32) (f_this_ones : Nat → Int32) (f_this_others : Nat → Int32) : va_W := [(q_this, .inr (3, [.ref q_this_ones, .ref q_this_others, .int v_this_many])),
  (q_this_ones, .inl (cI, 12, .inl f_this_ones)),
  (q_this_others, .inl (cI, 12, .inl f_this_others))]
abbrev zr_X3_has : Room := { frames := 0, cells := 0, slots := 0, locals := 0 }
set_option maxHeartbeats 4000000 in
set_option maxRecDepth 100000 in
theorem c_X3_has (l : Launch) (dC : Nat → ClassId) (dI : Nat → Nat → Nat) (cI cC cS : ClassId) (q_this : Nat) (q_this_ones : Nat) (q_this_others : Nat) (sz : Nat) (v_this_many : Int32) (f_this_ones : Nat → Int32) (f_this_others : Nat → Int32) (x1 : Int32) (x2 : Int32) (N : Nat) (Φ : Int32 → Prop)  (hf : wp_X3_has N x1 x2 v_this_many f_this_ones f_this_others Φ) : Met l yX3_has wsX3_has zr_X3_has (zPc (dC, dI) (zT cI cC cS) [.ref q_this, .int x1, .int x2] sz (zW_X3_has cI cC cS q_this q_this_ones q_this_others v_this_many f_this_ones f_this_others)) (zQi (dC, dI) (zT cI cC cS) (va_A (zW_X3_has cI cC cS q_this q_this_ones q_this_others v_this_many f_this_ones f_this_others) sz) (fun (r : Int32) (u : Unit) => Φ r) (fun u => (zW_X3_has cI cC cS q_this q_this_ones q_this_others v_this_many f_this_ones f_this_others))) 0 0 (va_A (zW_X3_has cI cC cS q_this q_this_ones q_this_others v_this_many f_this_ones f_this_others) sz) := by
  refine Met.ofW (cc := cX3_has) (maxL := 4) (ret := (some .boolean)) (by decide) rfl ?_
  intro p e s m args below meth c s₁ B hml hv
  obtain ⟨rfl, hsz, hP, hK, hD0⟩ := hv
  have hx := B.exec
  have hb := B.bytes
  have hr := B.returns
  have hts := atoms_spec (ws := wsX3_has) B.pre
  have hown : s.vm.findClass RX3 = some m.cls := findClass_of_methodNamed B.named
  have hlocks := B.notSynchronized
  subst hsz
  have hD := hD0.self (sz := s.heap.size)
  have hA : ∀ q : Nat, s.heap.size ≤ q → va_A (zW_X3_has cI cC cS q_this q_this_ones q_this_others v_this_many f_this_ones f_this_others) s.heap.size q := fun q h => Or.inr h
  generalize va_A (zW_X3_has cI cC cS q_this q_this_ones q_this_others v_this_many f_this_ones f_this_others) s.heap.size = A at hD hA ⊢
  have hS : va_S A s.heap s.heap [] := va_S.rf
  have hl := lv_entry ([.ref q_this, .int x1, .int x2]) (n := 4) (Nat.le_of_ble_eq_true rfl)
  rw [lg_entry_eq]
  generalize (lg_sl ([.ref q_this, .int x1, .int x2]) ++ List.replicate (4 - (lg_sl ([.ref q_this, .int x1, .int x2])).length) Slot.unset).toArray = ls at hl ⊢
  have hl : lv_has ls 4 [(0, .ref q_this), (1, .int x1), (2, .int x2)] := hl
  have lk1 := hts (.fieldLink RX3 18 "ReadFromAnywhere$Pairs" "many" "I") (List.mem_of_getElem? (i := 1) rfl)
  have inX3 : ∀ w ∈ u_ws RX3 TX3 3, w ∈ wsX3_has := fun _ h => List.mem_cons_of_mem _ (List.mem_append_right _ h)
  have lk2 := hts (.fieldLink RX3 9 "ReadFromAnywhere$Pairs" "ones" "[I") (List.mem_of_getElem? (i := 2) rfl)
  have lk3 := hts (.fieldLink RX3 15 "ReadFromAnywhere$Pairs" "others" "[I") (List.mem_of_getElem? (i := 3) rfl)
  have L2 : ∀ (n2 : Nat) (x3 : Int32), ∀ (H : Heap) (locs : List Loc) (ls : Array Slot), va_P (dC, dI) vwCl (zW_X3_has cI cC cS q_this q_this_ones q_this_others v_this_many f_this_ones f_this_others) H → va_D A (zW_X3_has cI cC cS q_this q_this_ones q_this_others v_this_many f_this_ones f_this_others) → va_S A s.heap H locs → lv_has ls 4 [(0, .ref q_this), (1, .int x1), (2, .int x2), (3, .int x3)] → lp_X3_has_2 N x1 x2 v_this_many f_this_ones f_this_others Φ n2 x3 → W p l e (headSpec wsX3_has zr_X3_has).room s m ([.ref q_this, .int x1, .int x2] : List Value).toArray below meth c H locs 0 0 (MQ below (zQi (dC, dI) (zT cI cC cS) A (fun (r : Int32) (u : Unit) => Φ r) (fun u => (zW_X3_has cI cC cS q_this q_this_ones q_this_others v_this_many f_this_ones f_this_others))) ([.ref q_this, .int x1, .int x2] : List Value).toArray s 0 0 A) (F0 m 2 ls []) := by
    intro n2
    induction n2 with
    | zero =>
      intro x3 H locs ls hP hD hS hl hf
      exact absurd hf (by rw [lp_X3_has_2]; exact id)
    | succ n2 ih2 =>
      intro x3 H locs ls hP hD hS hl hf
      rw [lp_X3_has_2] at hf
      refine lv_iload_n hx hb dX3_has_2 rfl (lv_at hl 3 rfl) ?_
      refine lv_aload_n hx hb dX3_has_3 rfl (lv_at hl 0 rfl) ?_
      refine va_get (D := (dC, dI)) (ci := 3) (v := .int v_this_many) (C := RX3) (T := TX3) (N := 3) hx hb hts inX3 hown hK hP 0 rfl rfl 2 (by decide) lk1 (fun _ h9 => h9) rfl dX3_has_4 ?_
      refine lv_icmp_ge (tgt := 38) hx hb dX3_has_7 (by decide) (fun c1 => ?_) (fun c1 => ?_)
      · replace hf := hf.1 c1
        refine lv_iconst (v := 0) hx hb dX3_has_38 (by decide) ?_
        exact z_zret hx hb hr rfl hlocks () hf hK hP hD hS dX3_has_39
      · replace hf := hf.2 c1
        refine lv_aload_n hx hb dX3_has_10 rfl (lv_at hl 0 rfl) ?_
        refine va_get (D := (dC, dI)) (ci := 3) (v := .ref q_this_ones) (C := RX3) (T := TX3) (N := 3) hx hb hts inX3 hown hK hP 0 rfl rfl 0 (by decide) lk2 (fun _ h9 => h9) rfl dX3_has_11 ?_
        refine lv_iload_n hx hb dX3_has_14 rfl (lv_at hl 3 rfl) ?_
        refine va_iald hx hb hK hP 1 0 rfl rfl hf.1 dX3_has_15 ?_
        replace hf := hf.2
        refine lv_iload_n hx hb dX3_has_16 rfl (lv_at hl 1 rfl) ?_
        refine lv_icmp_ne (tgt := 32) hx hb dX3_has_17 (by decide) (fun c2 => ?_) (fun c2 => ?_)
        · replace hf := hf.2 c2
          refine lv_iinc (v := (x3 + 1)) (lv' := [(3, .int (x3 + 1)), (0, .ref q_this), (1, .int x1), (2, .int x2)]) hx hb dX3_has_32 hl (k := 3) rfl (by rfl) (by decide) rfl (fun ls hl => ?_)
          refine lv_goto (tgt := 2) hx hb dX3_has_35 (by decide) ?_
          exact ih2 (x3 + 1) _ _ _ hP hD hS (lv_sub hl [1, 2, 3, 0] rfl) hf
        · replace hf := hf.1 c2
          refine lv_aload_n hx hb dX3_has_20 rfl (lv_at hl 0 rfl) ?_
          refine va_get (D := (dC, dI)) (ci := 3) (v := .ref q_this_others) (C := RX3) (T := TX3) (N := 3) hx hb hts inX3 hown hK hP 0 rfl rfl 1 (by decide) lk3 (fun _ h9 => h9) rfl dX3_has_21 ?_
          refine lv_iload_n hx hb dX3_has_24 rfl (lv_at hl 3 rfl) ?_
          refine va_iald hx hb hK hP 2 0 rfl rfl hf.1 dX3_has_25 ?_
          replace hf := hf.2
          refine lv_iload_n hx hb dX3_has_26 rfl (lv_at hl 2 rfl) ?_
          refine lv_icmp_ne (tgt := 32) hx hb dX3_has_27 (by decide) (fun c3 => ?_) (fun c3 => ?_)
          · replace hf := hf.2 c3
            refine lv_iinc (v := (x3 + 1)) (lv' := [(3, .int (x3 + 1)), (0, .ref q_this), (1, .int x1), (2, .int x2)]) hx hb dX3_has_32 hl (k := 3) rfl (by rfl) (by decide) rfl (fun ls hl => ?_)
            refine lv_goto (tgt := 2) hx hb dX3_has_35 (by decide) ?_
            exact ih2 (x3 + 1) _ _ _ hP hD hS (lv_sub hl [1, 2, 3, 0] rfl) hf
          · replace hf := hf.1 c3
            refine lv_iconst (v := 1) hx hb dX3_has_30 (by decide) ?_
            exact z_zret hx hb hr rfl hlocks () hf hK hP hD hS dX3_has_31
  unfold wp_X3_has at hf
  refine lv_iconst (v := 0) hx hb dX3_has_0 (by decide) ?_
  refine lv_istore_n (lv' := [(3, .int 0), (0, .ref q_this), (1, .int x1), (2, .int x2)]) hx hb dX3_has_1 rfl hl (by decide) rfl (fun ls hl => ?_)
  exact L2  N 0 _ _ _ hP hD hS (lv_sub hl [1, 2, 3, 0] rfl) hf
def wp_X4_copyFrom (N : Nat) (v_this_places : Int32) (f_this_has : Nat → Int32) (v_p1_places : Int32) (f_p1_has : Nat → Int32) (Φ : Int32 → (Nat → Int32) → Prop) : Prop := 
    Φ v_p1_places (va_cpy f_p1_has f_this_has (Int32.toNatClampNeg 0) (Int32.toNatClampNeg 0) (Int32.toNatClampNeg 12))
abbrev zW_X4_copyFrom (cI cC cS : ClassId) (q_this : Nat) (q_this_has : Nat) (q_p1 : Nat) (q_p1_has : Nat) (v_this_places : Int32) (f_this_has : Nat → Int32) (v_p1_places : Int32) (f_p1_has : Nat → Int32) : va_W := [(q_this, .inr (4, [.ref q_this_has, .int v_this_places])),
  (q_this_has, .inl (cI, 12, .inl f_this_has)),
  (q_p1, .inr (4, [.ref q_p1_has, .int v_p1_places])),
  (q_p1_has, .inl (cI, 12, .inl f_p1_has))]
abbrev zr_X4_copyFrom : Room := { frames := 1, cells := 0, slots := 0, locals := 60 }
set_option maxHeartbeats 4000000 in
set_option maxRecDepth 100000 in
theorem c_X4_copyFrom (l : Launch) (dC : Nat → ClassId) (dI : Nat → Nat → Nat) (cI cC cS : ClassId) (q_this : Nat) (q_this_has : Nat) (q_p1 : Nat) (q_p1_has : Nat) (sz : Nat) (v_this_places : Int32) (f_this_has : Nat → Int32) (v_p1_places : Int32) (f_p1_has : Nat → Int32) (N : Nat) (Φ : Int32 → (Nat → Int32) → Prop)  (hf : wp_X4_copyFrom N v_this_places f_this_has v_p1_places f_p1_has Φ) : Met l yX4_copyFrom wsX4_copyFrom zr_X4_copyFrom (zPc (dC, dI) (zT cI cC cS) [.ref q_this, .ref q_p1] sz (zW_X4_copyFrom cI cC cS q_this q_this_has q_p1 q_p1_has v_this_places f_this_has v_p1_places f_p1_has)) (zQv (dC, dI) (zT cI cC cS) (va_A (zW_X4_copyFrom cI cC cS q_this q_this_has q_p1 q_p1_has v_this_places f_this_has v_p1_places f_p1_has) sz) (fun (u : (Int32) × (Nat → Int32)) => Φ u.1 u.2) (fun u => (zW_X4_copyFrom cI cC cS q_this q_this_has q_p1 q_p1_has u.1 u.2 v_p1_places f_p1_has))) 0 0 (va_A (zW_X4_copyFrom cI cC cS q_this q_this_has q_p1 q_p1_has v_this_places f_this_has v_p1_places f_p1_has) sz) := by
  refine Met.ofW (cc := cX4_copyFrom) (maxL := 2) (ret := none) (by decide) rfl ?_
  intro p e s m args below meth c s₁ B hml hv
  obtain ⟨rfl, hsz, hP, hK, hD0⟩ := hv
  have hx := B.exec
  have hb := B.bytes
  have hr := B.returns
  have hts := atoms_spec (ws := wsX4_copyFrom) B.pre
  have hown : s.vm.findClass RX4 = some m.cls := findClass_of_methodNamed B.named
  have hlocks := B.notSynchronized
  subst hsz
  have hD := hD0.self (sz := s.heap.size)
  have hA : ∀ q : Nat, s.heap.size ≤ q → va_A (zW_X4_copyFrom cI cC cS q_this q_this_has q_p1 q_p1_has v_this_places f_this_has v_p1_places f_p1_has) s.heap.size q := fun q h => Or.inr h
  generalize va_A (zW_X4_copyFrom cI cC cS q_this q_this_has q_p1 q_p1_has v_this_places f_this_has v_p1_places f_p1_has) s.heap.size = A at hD hA ⊢
  have hS : va_S A s.heap s.heap [] := va_S.rf
  have hl := lv_entry ([.ref q_this, .ref q_p1]) (n := 2) (Nat.le_of_ble_eq_true rfl)
  rw [lg_entry_eq]
  generalize (lg_sl ([.ref q_this, .ref q_p1]) ++ List.replicate (2 - (lg_sl ([.ref q_this, .ref q_p1])).length) Slot.unset).toArray = ls at hl ⊢
  have hl : lv_has ls 2 [(0, .ref q_this), (1, .ref q_p1)] := hl
  have lk1 := hts (.fieldLink RX4 9 "ReadFromAnywhere$Ring" "has" "[I") (List.mem_of_getElem? (i := 1) rfl)
  have inX4 : ∀ w ∈ u_ws RX4 TX4 2, w ∈ wsX4_copyFrom := fun _ h => List.mem_cons_of_mem _ (List.mem_append_right _ h)
  have lk3 := hts (.native arraycopyName) (List.mem_of_getElem? (i := 3) rfl)
  have lk4 := hts (.static arraycopyName) (List.mem_of_getElem? (i := 4) rfl)
  have lk5 := hts (.initialized "java/lang/System") (List.mem_of_getElem? (i := 5) rfl)
  have lk2 := hts (.methodLink RX4 19 arraycopyName) (List.mem_of_getElem? (i := 2) rfl)
  have lk6 := hts (.fieldLink RX4 15 "ReadFromAnywhere$Ring" "places" "I") (List.mem_of_getElem? (i := 6) rfl)
  unfold wp_X4_copyFrom at hf
  refine lv_aload_n hx hb dX4_copyFrom_0 rfl (lv_at hl 1 rfl) ?_
  refine va_get (D := (dC, dI)) (ci := 4) (v := .ref q_p1_has) (C := RX4) (T := TX4) (N := 2) hx hb hts inX4 hown hK hP 2 rfl rfl 0 (by decide) lk1 (fun _ h9 => h9) rfl dX4_copyFrom_1 ?_
  refine lv_iconst (v := 0) hx hb dX4_copyFrom_4 (by decide) ?_
  refine lv_aload_n hx hb dX4_copyFrom_5 rfl (lv_at hl 0 rfl) ?_
  refine va_get (D := (dC, dI)) (ci := 4) (v := .ref q_this_has) (C := RX4) (T := TX4) (N := 2) hx hb hts inX4 hown hK hP 0 rfl rfl 0 (by decide) lk1 (fun _ h9 => h9) rfl dX4_copyFrom_6 ?_
  refine lv_iconst (v := 0) hx hb dX4_copyFrom_9 (by decide) ?_
  refine lv_bipush (v := 12) hx hb dX4_copyFrom_10 (by decide) ?_
  refine va_copyi (ty := .int) (sp := 0) (dp := 0) (n := 12) hx hb (hml.trans hl.1.symm) hown lk2 lk3 lk4 lk5 hK hP hD hS 3 1 0 0 rfl rfl rfl rfl rfl (by decide) (by decide) (by decide) (by decide) (by decide) (fun _ _ => rfl) (Nat.le_of_ble_eq_true rfl) (Nat.le_of_ble_eq_true rfl) dX4_copyFrom_12 (fun H locs hP hD hS => ?_)
  have hP : va_P (dC, dI) vwCl (zW_X4_copyFrom cI cC cS q_this q_this_has q_p1 q_p1_has v_this_places (va_cpy f_p1_has f_this_has (Int32.toNatClampNeg 0) (Int32.toNatClampNeg 0) (Int32.toNatClampNeg 12)) v_p1_places f_p1_has) H := hP
  have hD : va_D A (zW_X4_copyFrom cI cC cS q_this q_this_has q_p1 q_p1_has v_this_places (va_cpy f_p1_has f_this_has (Int32.toNatClampNeg 0) (Int32.toNatClampNeg 0) (Int32.toNatClampNeg 12)) v_p1_places f_p1_has) := hD
  refine lv_aload_n hx hb dX4_copyFrom_15 rfl (lv_at hl 0 rfl) ?_
  refine lv_aload_n hx hb dX4_copyFrom_16 rfl (lv_at hl 1 rfl) ?_
  refine va_get (D := (dC, dI)) (ci := 4) (v := .int v_p1_places) (C := RX4) (T := TX4) (N := 2) hx hb hts inX4 hown hK hP 2 rfl rfl 1 (by decide) lk6 (fun _ h9 => h9) rfl dX4_copyFrom_17 ?_
  refine va_put (D := (dC, dI)) (ci := 4) (v := .int v_p1_places) (ty := .int) (C := RX4) (T := TX4) (N := 2) hx hb hts inX4 tyX4 tyX4_ok nmX4 hown hK hP hD hS 0 rfl rfl 1 (by decide) lk6 (fun _ h9 => h9) rfl (by decide +kernel) rfl rfl (Nat.le_of_ble_eq_true rfl) dX4_copyFrom_20 (fun H locs hP hD hS => ?_)
  have hP : va_P (dC, dI) vwCl (zW_X4_copyFrom cI cC cS q_this q_this_has q_p1 q_p1_has v_p1_places (va_cpy f_p1_has f_this_has (Int32.toNatClampNeg 0) (Int32.toNatClampNeg 0) (Int32.toNatClampNeg 12)) v_p1_places f_p1_has) H := hP
  have hD : va_D A (zW_X4_copyFrom cI cC cS q_this q_this_has q_p1 q_p1_has v_p1_places (va_cpy f_p1_has f_this_has (Int32.toNatClampNeg 0) (Int32.toNatClampNeg 0) (Int32.toNatClampNeg 12)) v_p1_places f_p1_has) := hD
  exact z_vret hx hb hr hlocks (v_p1_places, (va_cpy f_p1_has f_this_has (Int32.toNatClampNeg 0) (Int32.toNatClampNeg 0) (Int32.toNatClampNeg 12))) hf hK hP hD hS dX4_copyFrom_23
def wp_X4_add (N : Nat) (x1 : Int32) (v_this_places : Int32) (f_this_has : Nat → Int32) (Φ : Int32 → Int32 → (Nat → Int32) → Prop) : Prop := 
    ((12 ≤ v_this_places → Φ v_this_places v_this_places f_this_has) ∧
     (¬ (12 ≤ v_this_places) → (vp_in v_this_places 12 ∧ Φ (v_this_places + 1) (v_this_places + 1) (upd f_this_has (Int32.toNatClampNeg v_this_places) x1))))
abbrev zW_X4_add (cI cC cS : ClassId) (q_this : Nat) (q_this_has : Nat) (v_this_places : Int32) (f_this_has : Nat → Int32) : va_W := [(q_this, .inr (4, [.ref q_this_has, .int v_this_places])),
  (q_this_has, .inl (cI, 12, .inl f_this_has))]
abbrev zr_X4_add : Room := { frames := 0, cells := 0, slots := 0, locals := 0 }
set_option maxHeartbeats 4000000 in
set_option maxRecDepth 100000 in
theorem c_X4_add (l : Launch) (dC : Nat → ClassId) (dI : Nat → Nat → Nat) (cI cC cS : ClassId) (q_this : Nat) (q_this_has : Nat) (sz : Nat) (v_this_places : Int32) (f_this_has : Nat → Int32) (x1 : Int32) (N : Nat) (Φ : Int32 → Int32 → (Nat → Int32) → Prop)  (hf : wp_X4_add N x1 v_this_places f_this_has Φ) : Met l yX4_add wsX4_add zr_X4_add (zPc (dC, dI) (zT cI cC cS) [.ref q_this, .int x1] sz (zW_X4_add cI cC cS q_this q_this_has v_this_places f_this_has)) (zQi (dC, dI) (zT cI cC cS) (va_A (zW_X4_add cI cC cS q_this q_this_has v_this_places f_this_has) sz) (fun (r : Int32) (u : (Int32) × (Nat → Int32)) => Φ r u.1 u.2) (fun u => (zW_X4_add cI cC cS q_this q_this_has u.1 u.2))) 0 0 (va_A (zW_X4_add cI cC cS q_this q_this_has v_this_places f_this_has) sz) := by
  refine Met.ofW (cc := cX4_add) (maxL := 2) (ret := (some .int)) (by decide) rfl ?_
  intro p e s m args below meth c s₁ B hml hv
  obtain ⟨rfl, hsz, hP, hK, hD0⟩ := hv
  have hx := B.exec
  have hb := B.bytes
  have hr := B.returns
  have hts := atoms_spec (ws := wsX4_add) B.pre
  have hown : s.vm.findClass RX4 = some m.cls := findClass_of_methodNamed B.named
  have hlocks := B.notSynchronized
  subst hsz
  have hD := hD0.self (sz := s.heap.size)
  have hA : ∀ q : Nat, s.heap.size ≤ q → va_A (zW_X4_add cI cC cS q_this q_this_has v_this_places f_this_has) s.heap.size q := fun q h => Or.inr h
  generalize va_A (zW_X4_add cI cC cS q_this q_this_has v_this_places f_this_has) s.heap.size = A at hD hA ⊢
  have hS : va_S A s.heap s.heap [] := va_S.rf
  have hl := lv_entry ([.ref q_this, .int x1]) (n := 2) (Nat.le_of_ble_eq_true rfl)
  rw [lg_entry_eq]
  generalize (lg_sl ([.ref q_this, .int x1]) ++ List.replicate (2 - (lg_sl ([.ref q_this, .int x1])).length) Slot.unset).toArray = ls at hl ⊢
  have hl : lv_has ls 2 [(0, .ref q_this), (1, .int x1)] := hl
  have lk1 := hts (.fieldLink RX4 15 "ReadFromAnywhere$Ring" "places" "I") (List.mem_of_getElem? (i := 1) rfl)
  have inX4 : ∀ w ∈ u_ws RX4 TX4 2, w ∈ wsX4_add := fun _ h => List.mem_cons_of_mem _ (List.mem_append_right _ h)
  have lk2 := hts (.fieldLink RX4 9 "ReadFromAnywhere$Ring" "has" "[I") (List.mem_of_getElem? (i := 2) rfl)
  unfold wp_X4_add at hf
  refine lv_aload_n hx hb dX4_add_0 rfl (lv_at hl 0 rfl) ?_
  refine va_get (D := (dC, dI)) (ci := 4) (v := .int v_this_places) (C := RX4) (T := TX4) (N := 2) hx hb hts inX4 hown hK hP 0 rfl rfl 1 (by decide) lk1 (fun _ h9 => h9) rfl dX4_add_1 ?_
  refine lv_bipush (v := 12) hx hb dX4_add_4 (by decide) ?_
  refine lv_icmp_ge (tgt := 29) hx hb dX4_add_6 (by decide) (fun c1 => ?_) (fun c1 => ?_)
  · replace hf := hf.1 c1
    refine lv_aload_n hx hb dX4_add_29 rfl (lv_at hl 0 rfl) ?_
    refine va_get (D := (dC, dI)) (ci := 4) (v := .int v_this_places) (C := RX4) (T := TX4) (N := 2) hx hb hts inX4 hown hK hP 0 rfl rfl 1 (by decide) lk1 (fun _ h9 => h9) rfl dX4_add_30 ?_
    exact z_iret hx hb hr hlocks (v_this_places, f_this_has) hf hK hP hD hS dX4_add_33
  · replace hf := hf.2 c1
    refine lv_aload_n hx hb dX4_add_9 rfl (lv_at hl 0 rfl) ?_
    refine va_get (D := (dC, dI)) (ci := 4) (v := .ref q_this_has) (C := RX4) (T := TX4) (N := 2) hx hb hts inX4 hown hK hP 0 rfl rfl 0 (by decide) lk2 (fun _ h9 => h9) rfl dX4_add_10 ?_
    refine lv_aload_n hx hb dX4_add_13 rfl (lv_at hl 0 rfl) ?_
    refine va_get (D := (dC, dI)) (ci := 4) (v := .int v_this_places) (C := RX4) (T := TX4) (N := 2) hx hb hts inX4 hown hK hP 0 rfl rfl 1 (by decide) lk1 (fun _ h9 => h9) rfl dX4_add_14 ?_
    refine lv_iload_n hx hb dX4_add_17 rfl (lv_at hl 1 rfl) ?_
    refine va_iast hx hb hK hP hD hS 1 0 rfl rfl hf.1 dX4_add_18 (fun H locs hP hD hS => ?_)
    replace hf := hf.2
    have hP : va_P (dC, dI) vwCl (zW_X4_add cI cC cS q_this q_this_has v_this_places (upd f_this_has (Int32.toNatClampNeg v_this_places) x1)) H := hP
    have hD : va_D A (zW_X4_add cI cC cS q_this q_this_has v_this_places (upd f_this_has (Int32.toNatClampNeg v_this_places) x1)) := hD
    refine lv_aload_n hx hb dX4_add_19 rfl (lv_at hl 0 rfl) ?_
    refine lv_dup hx hb dX4_add_20 rfl ?_
    refine va_get (D := (dC, dI)) (ci := 4) (v := .int v_this_places) (C := RX4) (T := TX4) (N := 2) hx hb hts inX4 hown hK hP 0 rfl rfl 1 (by decide) lk1 (fun _ h9 => h9) rfl dX4_add_21 ?_
    refine lv_iconst (v := 1) hx hb dX4_add_24 (by decide) ?_
    refine lv_iadd hx hb dX4_add_25 ?_
    refine va_put (D := (dC, dI)) (ci := 4) (v := .int (v_this_places + 1)) (ty := .int) (C := RX4) (T := TX4) (N := 2) hx hb hts inX4 tyX4 tyX4_ok nmX4 hown hK hP hD hS 0 rfl rfl 1 (by decide) lk1 (fun _ h9 => h9) rfl (by decide +kernel) rfl rfl (Nat.le_of_ble_eq_true rfl) dX4_add_26 (fun H locs hP hD hS => ?_)
    have hP : va_P (dC, dI) vwCl (zW_X4_add cI cC cS q_this q_this_has (v_this_places + 1) (upd f_this_has (Int32.toNatClampNeg v_this_places) x1)) H := hP
    have hD : va_D A (zW_X4_add cI cC cS q_this q_this_has (v_this_places + 1) (upd f_this_has (Int32.toNatClampNeg v_this_places) x1)) := hD
    refine lv_aload_n hx hb dX4_add_29 rfl (lv_at hl 0 rfl) ?_
    refine va_get (D := (dC, dI)) (ci := 4) (v := .int (v_this_places + 1)) (C := RX4) (T := TX4) (N := 2) hx hb hts inX4 hown hK hP 0 rfl rfl 1 (by decide) lk1 (fun _ h9 => h9) rfl dX4_add_30 ?_
    exact z_iret hx hb hr hlocks ((v_this_places + 1), (upd f_this_has (Int32.toNatClampNeg v_this_places) x1)) hf hK hP hD hS dX4_add_33
def wp_X4_hasPlace (N : Nat) (x1 : Int32) (v_this_places : Int32) (Φ : Int32 → Prop) : Prop := 
    ((x1 < 0 → Φ 0) ∧
     (¬ (x1 < 0) → ((v_this_places ≤ x1 → Φ 0) ∧
     (¬ (v_this_places ≤ x1) → Φ 1))))
abbrev zW_X4_hasPlace (cI cC cS : ClassId) (q_this : Nat) (q_this_has : Nat) (v_this_places : Int32) : va_W := [(q_this, .inr (4, [.ref q_this_has, .int v_this_places]))]
abbrev zr_X4_hasPlace : Room := { frames := 0, cells := 0, slots := 0, locals := 0 }
set_option maxHeartbeats 4000000 in
set_option maxRecDepth 100000 in
theorem c_X4_hasPlace (l : Launch) (dC : Nat → ClassId) (dI : Nat → Nat → Nat) (cI cC cS : ClassId) (q_this : Nat) (q_this_has : Nat) (sz : Nat) (v_this_places : Int32) (x1 : Int32) (N : Nat) (Φ : Int32 → Prop)  (hf : wp_X4_hasPlace N x1 v_this_places Φ) : Met l yX4_hasPlace wsX4_hasPlace zr_X4_hasPlace (zPc (dC, dI) (zT cI cC cS) [.ref q_this, .int x1] sz (zW_X4_hasPlace cI cC cS q_this q_this_has v_this_places)) (zQi (dC, dI) (zT cI cC cS) (va_A (zW_X4_hasPlace cI cC cS q_this q_this_has v_this_places) sz) (fun (r : Int32) (u : Unit) => Φ r) (fun u => (zW_X4_hasPlace cI cC cS q_this q_this_has v_this_places))) 0 0 (va_A (zW_X4_hasPlace cI cC cS q_this q_this_has v_this_places) sz) := by
  refine Met.ofW (cc := cX4_hasPlace) (maxL := 2) (ret := (some .boolean)) (by decide) rfl ?_
  intro p e s m args below meth c s₁ B hml hv
  obtain ⟨rfl, hsz, hP, hK, hD0⟩ := hv
  have hx := B.exec
  have hb := B.bytes
  have hr := B.returns
  have hts := atoms_spec (ws := wsX4_hasPlace) B.pre
  have hown : s.vm.findClass RX4 = some m.cls := findClass_of_methodNamed B.named
  have hlocks := B.notSynchronized
  subst hsz
  have hD := hD0.self (sz := s.heap.size)
  have hA : ∀ q : Nat, s.heap.size ≤ q → va_A (zW_X4_hasPlace cI cC cS q_this q_this_has v_this_places) s.heap.size q := fun q h => Or.inr h
  generalize va_A (zW_X4_hasPlace cI cC cS q_this q_this_has v_this_places) s.heap.size = A at hD hA ⊢
  have hS : va_S A s.heap s.heap [] := va_S.rf
  have hl := lv_entry ([.ref q_this, .int x1]) (n := 2) (Nat.le_of_ble_eq_true rfl)
  rw [lg_entry_eq]
  generalize (lg_sl ([.ref q_this, .int x1]) ++ List.replicate (2 - (lg_sl ([.ref q_this, .int x1])).length) Slot.unset).toArray = ls at hl ⊢
  have hl : lv_has ls 2 [(0, .ref q_this), (1, .int x1)] := hl
  have lk1 := hts (.fieldLink RX4 15 "ReadFromAnywhere$Ring" "places" "I") (List.mem_of_getElem? (i := 1) rfl)
  have inX4 : ∀ w ∈ u_ws RX4 TX4 2, w ∈ wsX4_hasPlace := fun _ h => List.mem_cons_of_mem _ (List.mem_append_right _ h)
  unfold wp_X4_hasPlace at hf
  refine lv_iload_n hx hb dX4_hasPlace_0 rfl (lv_at hl 1 rfl) ?_
  refine lv_if_lt (tgt := 16) hx hb dX4_hasPlace_1 (by decide) (fun c1 => ?_) (fun c1 => ?_)
  · replace hf := hf.1 c1
    refine lv_iconst (v := 0) hx hb dX4_hasPlace_16 (by decide) ?_
    exact z_zret hx hb hr rfl hlocks () hf hK hP hD hS dX4_hasPlace_17
  · replace hf := hf.2 c1
    refine lv_iload_n hx hb dX4_hasPlace_4 rfl (lv_at hl 1 rfl) ?_
    refine lv_aload_n hx hb dX4_hasPlace_5 rfl (lv_at hl 0 rfl) ?_
    refine va_get (D := (dC, dI)) (ci := 4) (v := .int v_this_places) (C := RX4) (T := TX4) (N := 2) hx hb hts inX4 hown hK hP 0 rfl rfl 1 (by decide) lk1 (fun _ h9 => h9) rfl dX4_hasPlace_6 ?_
    refine lv_icmp_ge (tgt := 16) hx hb dX4_hasPlace_9 (by decide) (fun c2 => ?_) (fun c2 => ?_)
    · replace hf := hf.1 c2
      refine lv_iconst (v := 0) hx hb dX4_hasPlace_16 (by decide) ?_
      exact z_zret hx hb hr rfl hlocks () hf hK hP hD hS dX4_hasPlace_17
    · replace hf := hf.2 c2
      refine lv_iconst (v := 1) hx hb dX4_hasPlace_12 (by decide) ?_
      refine lv_goto (tgt := 17) hx hb dX4_hasPlace_13 (by decide) ?_
      exact z_zret hx hb hr rfl hlocks () hf hK hP hD hS dX4_hasPlace_17
def wp_X4_toldAt (N : Nat) (x1 : Int32) (f_this_has : Nat → Int32) (Φ : Int32 → Prop) : Prop := 
    (vp_in x1 12 ∧ (((f_this_has (Int32.toNatClampNeg x1)) = (-1) → Φ (-9)) ∧
     (¬ ((f_this_has (Int32.toNatClampNeg x1)) = (-1)) → (vp_in x1 12 ∧ Φ (f_this_has (Int32.toNatClampNeg x1))))))
abbrev zW_X4_toldAt (cI cC cS : ClassId) (q_this : Nat) (q_this_has : Nat) (v_this_places : Int32) (f_this_has : Nat → Int32) : va_W := [(q_this, .inr (4, [.ref q_this_has, .int v_this_places])),
  (q_this_has, .inl (cI, 12, .inl f_this_has))]
abbrev zr_X4_toldAt : Room := { frames := 0, cells := 0, slots := 0, locals := 0 }
set_option maxHeartbeats 4000000 in
set_option maxRecDepth 100000 in
theorem c_X4_toldAt (l : Launch) (dC : Nat → ClassId) (dI : Nat → Nat → Nat) (cI cC cS : ClassId) (q_this : Nat) (q_this_has : Nat) (sz : Nat) (v_this_places : Int32) (f_this_has : Nat → Int32) (x1 : Int32) (N : Nat) (Φ : Int32 → Prop)  (hf : wp_X4_toldAt N x1 f_this_has Φ) : Met l yX4_toldAt wsX4_toldAt zr_X4_toldAt (zPc (dC, dI) (zT cI cC cS) [.ref q_this, .int x1] sz (zW_X4_toldAt cI cC cS q_this q_this_has v_this_places f_this_has)) (zQi (dC, dI) (zT cI cC cS) (va_A (zW_X4_toldAt cI cC cS q_this q_this_has v_this_places f_this_has) sz) (fun (r : Int32) (u : Unit) => Φ r) (fun u => (zW_X4_toldAt cI cC cS q_this q_this_has v_this_places f_this_has))) 0 0 (va_A (zW_X4_toldAt cI cC cS q_this q_this_has v_this_places f_this_has) sz) := by
  refine Met.ofW (cc := cX4_toldAt) (maxL := 2) (ret := (some .int)) (by decide) rfl ?_
  intro p e s m args below meth c s₁ B hml hv
  obtain ⟨rfl, hsz, hP, hK, hD0⟩ := hv
  have hx := B.exec
  have hb := B.bytes
  have hr := B.returns
  have hts := atoms_spec (ws := wsX4_toldAt) B.pre
  have hown : s.vm.findClass RX4 = some m.cls := findClass_of_methodNamed B.named
  have hlocks := B.notSynchronized
  subst hsz
  have hD := hD0.self (sz := s.heap.size)
  have hA : ∀ q : Nat, s.heap.size ≤ q → va_A (zW_X4_toldAt cI cC cS q_this q_this_has v_this_places f_this_has) s.heap.size q := fun q h => Or.inr h
  generalize va_A (zW_X4_toldAt cI cC cS q_this q_this_has v_this_places f_this_has) s.heap.size = A at hD hA ⊢
  have hS : va_S A s.heap s.heap [] := va_S.rf
  have hl := lv_entry ([.ref q_this, .int x1]) (n := 2) (Nat.le_of_ble_eq_true rfl)
  rw [lg_entry_eq]
  generalize (lg_sl ([.ref q_this, .int x1]) ++ List.replicate (2 - (lg_sl ([.ref q_this, .int x1])).length) Slot.unset).toArray = ls at hl ⊢
  have hl : lv_has ls 2 [(0, .ref q_this), (1, .int x1)] := hl
  have lk1 := hts (.fieldLink RX4 9 "ReadFromAnywhere$Ring" "has" "[I") (List.mem_of_getElem? (i := 1) rfl)
  have inX4 : ∀ w ∈ u_ws RX4 TX4 2, w ∈ wsX4_toldAt := fun _ h => List.mem_cons_of_mem _ (List.mem_append_right _ h)
  unfold wp_X4_toldAt at hf
  refine lv_aload_n hx hb dX4_toldAt_0 rfl (lv_at hl 0 rfl) ?_
  refine va_get (D := (dC, dI)) (ci := 4) (v := .ref q_this_has) (C := RX4) (T := TX4) (N := 2) hx hb hts inX4 hown hK hP 0 rfl rfl 0 (by decide) lk1 (fun _ h9 => h9) rfl dX4_toldAt_1 ?_
  refine lv_iload_n hx hb dX4_toldAt_4 rfl (lv_at hl 1 rfl) ?_
  refine va_iald hx hb hK hP 1 0 rfl rfl hf.1 dX4_toldAt_5 ?_
  replace hf := hf.2
  refine lv_iconst (v := (-1)) hx hb dX4_toldAt_6 (by decide) ?_
  refine lv_icmp_ne (tgt := 15) hx hb dX4_toldAt_7 (by decide) (fun c1 => ?_) (fun c1 => ?_)
  · replace hf := hf.2 c1
    refine lv_aload_n hx hb dX4_toldAt_15 rfl (lv_at hl 0 rfl) ?_
    refine va_get (D := (dC, dI)) (ci := 4) (v := .ref q_this_has) (C := RX4) (T := TX4) (N := 2) hx hb hts inX4 hown hK hP 0 rfl rfl 0 (by decide) lk1 (fun _ h9 => h9) rfl dX4_toldAt_16 ?_
    refine lv_iload_n hx hb dX4_toldAt_19 rfl (lv_at hl 1 rfl) ?_
    refine va_iald hx hb hK hP 1 0 rfl rfl hf.1 dX4_toldAt_20 ?_
    replace hf := hf.2
    exact z_iret hx hb hr hlocks () hf hK hP hD hS dX4_toldAt_21
  · replace hf := hf.1 c1
    refine lv_bipush (v := (-9)) hx hb dX4_toldAt_10 (by decide) ?_
    refine lv_goto (tgt := 21) hx hb dX4_toldAt_12 (by decide) ?_
    exact z_iret hx hb hr hlocks () hf hK hP hD hS dX4_toldAt_21
def lp_X4_blanks_4 (N : Nat) (v_this_places : Int32) (f_this_has : Nat → Int32) (Φ : Int32 → Prop) : Nat → Int32 → Int32 → Prop
  | 0, _, _ => False
  | n + 1, x1, x2 => 
    ((v_this_places ≤ x2 → Φ x1) ∧
     (¬ (v_this_places ≤ x2) → (vp_in x2 12 ∧ (((f_this_has (Int32.toNatClampNeg x2)) = (-1) → (lp_X4_blanks_4 N v_this_places f_this_has Φ n) (x1 + 1) (x2 + 1)) ∧
     (¬ ((f_this_has (Int32.toNatClampNeg x2)) = (-1)) → (lp_X4_blanks_4 N v_this_places f_this_has Φ n) x1 (x2 + 1))))))
def wp_X4_blanks (N : Nat) (v_this_places : Int32) (f_this_has : Nat → Int32) (Φ : Int32 → Prop) : Prop := 
    lp_X4_blanks_4 N v_this_places f_this_has Φ N 0 0
abbrev zW_X4_blanks (cI cC cS : ClassId) (q_this : Nat) (q_this_has : Nat) (v_this_places : Int32) (f_this_has : Nat → Int32) : va_W := [(q_this, .inr (4, [.ref q_this_has, .int v_this_places])),
  (q_this_has, .inl (cI, 12, .inl f_this_has))]
abbrev zr_X4_blanks : Room := { frames := 0, cells := 0, slots := 0, locals := 0 }
set_option maxHeartbeats 4000000 in
set_option maxRecDepth 100000 in
theorem c_X4_blanks (l : Launch) (dC : Nat → ClassId) (dI : Nat → Nat → Nat) (cI cC cS : ClassId) (q_this : Nat) (q_this_has : Nat) (sz : Nat) (v_this_places : Int32) (f_this_has : Nat → Int32) (N : Nat) (Φ : Int32 → Prop)  (hf : wp_X4_blanks N v_this_places f_this_has Φ) : Met l yX4_blanks wsX4_blanks zr_X4_blanks (zPc (dC, dI) (zT cI cC cS) [.ref q_this] sz (zW_X4_blanks cI cC cS q_this q_this_has v_this_places f_this_has)) (zQi (dC, dI) (zT cI cC cS) (va_A (zW_X4_blanks cI cC cS q_this q_this_has v_this_places f_this_has) sz) (fun (r : Int32) (u : Unit) => Φ r) (fun u => (zW_X4_blanks cI cC cS q_this q_this_has v_this_places f_this_has))) 0 0 (va_A (zW_X4_blanks cI cC cS q_this q_this_has v_this_places f_this_has) sz) := by
  refine Met.ofW (cc := cX4_blanks) (maxL := 3) (ret := (some .int)) (by decide) rfl ?_
  intro p e s m args below meth c s₁ B hml hv
  obtain ⟨rfl, hsz, hP, hK, hD0⟩ := hv
  have hx := B.exec
  have hb := B.bytes
  have hr := B.returns
  have hts := atoms_spec (ws := wsX4_blanks) B.pre
  have hown : s.vm.findClass RX4 = some m.cls := findClass_of_methodNamed B.named
  have hlocks := B.notSynchronized
  subst hsz
  have hD := hD0.self (sz := s.heap.size)
  have hA : ∀ q : Nat, s.heap.size ≤ q → va_A (zW_X4_blanks cI cC cS q_this q_this_has v_this_places f_this_has) s.heap.size q := fun q h => Or.inr h
  generalize va_A (zW_X4_blanks cI cC cS q_this q_this_has v_this_places f_this_has) s.heap.size = A at hD hA ⊢
  have hS : va_S A s.heap s.heap [] := va_S.rf
  have hl := lv_entry ([.ref q_this]) (n := 3) (Nat.le_of_ble_eq_true rfl)
  rw [lg_entry_eq]
  generalize (lg_sl ([.ref q_this]) ++ List.replicate (3 - (lg_sl ([.ref q_this])).length) Slot.unset).toArray = ls at hl ⊢
  have hl : lv_has ls 3 [(0, .ref q_this)] := hl
  have lk1 := hts (.fieldLink RX4 15 "ReadFromAnywhere$Ring" "places" "I") (List.mem_of_getElem? (i := 1) rfl)
  have inX4 : ∀ w ∈ u_ws RX4 TX4 2, w ∈ wsX4_blanks := fun _ h => List.mem_cons_of_mem _ (List.mem_append_right _ h)
  have lk2 := hts (.fieldLink RX4 9 "ReadFromAnywhere$Ring" "has" "[I") (List.mem_of_getElem? (i := 2) rfl)
  have L4 : ∀ (n4 : Nat) (x1 : Int32) (x2 : Int32), ∀ (H : Heap) (locs : List Loc) (ls : Array Slot), va_P (dC, dI) vwCl (zW_X4_blanks cI cC cS q_this q_this_has v_this_places f_this_has) H → va_D A (zW_X4_blanks cI cC cS q_this q_this_has v_this_places f_this_has) → va_S A s.heap H locs → lv_has ls 3 [(0, .ref q_this), (1, .int x1), (2, .int x2)] → lp_X4_blanks_4 N v_this_places f_this_has Φ n4 x1 x2 → W p l e (headSpec wsX4_blanks zr_X4_blanks).room s m ([.ref q_this] : List Value).toArray below meth c H locs 0 0 (MQ below (zQi (dC, dI) (zT cI cC cS) A (fun (r : Int32) (u : Unit) => Φ r) (fun u => (zW_X4_blanks cI cC cS q_this q_this_has v_this_places f_this_has))) ([.ref q_this] : List Value).toArray s 0 0 A) (F0 m 4 ls []) := by
    intro n4
    induction n4 with
    | zero =>
      intro x1 x2 H locs ls hP hD hS hl hf
      exact absurd hf (by rw [lp_X4_blanks_4]; exact id)
    | succ n4 ih4 =>
      intro x1 x2 H locs ls hP hD hS hl hf
      rw [lp_X4_blanks_4] at hf
      refine lv_iload_n hx hb dX4_blanks_4 rfl (lv_at hl 2 rfl) ?_
      refine lv_aload_n hx hb dX4_blanks_5 rfl (lv_at hl 0 rfl) ?_
      refine va_get (D := (dC, dI)) (ci := 4) (v := .int v_this_places) (C := RX4) (T := TX4) (N := 2) hx hb hts inX4 hown hK hP 0 rfl rfl 1 (by decide) lk1 (fun _ h9 => h9) rfl dX4_blanks_6 ?_
      refine lv_icmp_ge (tgt := 31) hx hb dX4_blanks_9 (by decide) (fun c1 => ?_) (fun c1 => ?_)
      · replace hf := hf.1 c1
        refine lv_iload_n hx hb dX4_blanks_31 rfl (lv_at hl 1 rfl) ?_
        exact z_iret hx hb hr hlocks () hf hK hP hD hS dX4_blanks_32
      · replace hf := hf.2 c1
        refine lv_aload_n hx hb dX4_blanks_12 rfl (lv_at hl 0 rfl) ?_
        refine va_get (D := (dC, dI)) (ci := 4) (v := .ref q_this_has) (C := RX4) (T := TX4) (N := 2) hx hb hts inX4 hown hK hP 0 rfl rfl 0 (by decide) lk2 (fun _ h9 => h9) rfl dX4_blanks_13 ?_
        refine lv_iload_n hx hb dX4_blanks_16 rfl (lv_at hl 2 rfl) ?_
        refine va_iald hx hb hK hP 1 0 rfl rfl hf.1 dX4_blanks_17 ?_
        replace hf := hf.2
        refine lv_iconst (v := (-1)) hx hb dX4_blanks_18 (by decide) ?_
        refine lv_icmp_ne (tgt := 25) hx hb dX4_blanks_19 (by decide) (fun c2 => ?_) (fun c2 => ?_)
        · replace hf := hf.2 c2
          refine lv_iinc (v := (x2 + 1)) (lv' := [(2, .int (x2 + 1)), (0, .ref q_this), (1, .int x1)]) hx hb dX4_blanks_25 hl (k := 2) rfl (by rfl) (by decide) rfl (fun ls hl => ?_)
          refine lv_goto (tgt := 4) hx hb dX4_blanks_28 (by decide) ?_
          exact ih4 x1 (x2 + 1) _ _ _ hP hD hS (lv_sub hl [1, 2, 0] rfl) hf
        · replace hf := hf.1 c2
          refine lv_iinc (v := (x1 + 1)) (lv' := [(1, .int (x1 + 1)), (0, .ref q_this), (2, .int x2)]) hx hb dX4_blanks_22 hl (k := 1) rfl (by rfl) (by decide) rfl (fun ls hl => ?_)
          refine lv_iinc (v := (x2 + 1)) (lv' := [(2, .int (x2 + 1)), (1, .int (x1 + 1)), (0, .ref q_this)]) hx hb dX4_blanks_25 hl (k := 2) rfl (by rfl) (by decide) rfl (fun ls hl => ?_)
          refine lv_goto (tgt := 4) hx hb dX4_blanks_28 (by decide) ?_
          exact ih4 (x1 + 1) (x2 + 1) _ _ _ hP hD hS (lv_sub hl [2, 1, 0] rfl) hf
  unfold wp_X4_blanks at hf
  refine lv_iconst (v := 0) hx hb dX4_blanks_0 (by decide) ?_
  refine lv_istore_n (lv' := [(1, .int 0), (0, .ref q_this)]) hx hb dX4_blanks_1 rfl hl (by decide) rfl (fun ls hl => ?_)
  refine lv_iconst (v := 0) hx hb dX4_blanks_2 (by decide) ?_
  refine lv_istore_n (lv' := [(2, .int 0), (1, .int 0), (0, .ref q_this)]) hx hb dX4_blanks_3 rfl hl (by decide) rfl (fun ls hl => ?_)
  exact L4  N 0 0 _ _ _ hP hD hS (lv_sub hl [2, 1, 0] rfl) hf
def wp_X8_copyFrom (N : Nat) (v_this_words : Int32) (v_this_roads : Int32) (f_this_kinds : Nat → Int32) (f_this_sets : Nat → Int32) (f_this_weights : Nat → Int32) (f_this_stocks : Nat → Int32) (f_this_readers : Nat → Int32) (f_this_eighths : Nat → Int32) (f_this_wishes : Nat → Int32) (v_p1_words : Int32) (v_p1_roads : Int32) (f_p1_kinds : Nat → Int32) (f_p1_sets : Nat → Int32) (f_p1_weights : Nat → Int32) (f_p1_stocks : Nat → Int32) (f_p1_readers : Nat → Int32) (f_p1_eighths : Nat → Int32) (f_p1_wishes : Nat → Int32) (Φ : Int32 → Int32 → (Nat → Int32) → (Nat → Int32) → (Nat → Int32) → (Nat → Int32) → (Nat → Int32) → (Nat → Int32) → (Nat → Int32) → Prop) : Prop := 
    Φ v_p1_words v_p1_roads (va_cpy f_p1_kinds f_this_kinds (Int32.toNatClampNeg 0) (Int32.toNatClampNeg 0) (Int32.toNatClampNeg 6)) (va_cpy f_p1_sets f_this_sets (Int32.toNatClampNeg 0) (Int32.toNatClampNeg 0) (Int32.toNatClampNeg 6)) (va_cpy f_p1_weights f_this_weights (Int32.toNatClampNeg 0) (Int32.toNatClampNeg 0) (Int32.toNatClampNeg 6)) (va_cpy f_p1_stocks f_this_stocks (Int32.toNatClampNeg 0) (Int32.toNatClampNeg 0) (Int32.toNatClampNeg 6)) (va_cpy f_p1_readers f_this_readers (Int32.toNatClampNeg 0) (Int32.toNatClampNeg 0) (Int32.toNatClampNeg 6)) (va_cpy f_p1_eighths f_this_eighths (Int32.toNatClampNeg 0) (Int32.toNatClampNeg 0) (Int32.toNatClampNeg 6)) (va_cpy f_p1_wishes f_this_wishes (Int32.toNatClampNeg 0) (Int32.toNatClampNeg 0) (Int32.toNatClampNeg 6))
abbrev zW_X8_copyFrom (cI cC cS : ClassId) (q_this : Nat) (q_this_kinds : Nat) (q_this_sets : Nat) (q_this_weights : Nat) (q_this_stocks : Nat) (q_this_readers : Nat) (q_this_eighths : Nat) (q_this_wishes : Nat) (q_p1 : Nat) (q_p1_kinds : Nat) (q_p1_sets : Nat) (q_p1_weights : Nat) (q_p1_stocks : Nat) (q_p1_readers : Nat) (q_p1_eighths : Nat) (q_p1_wishes : Nat) (v_this_words : Int32) (v_this_roads : Int32) (f_this_kinds : Nat → Int32) (f_this_sets : Nat → Int32) (f_this_weights : Nat → Int32) (f_this_stocks : Nat → Int32) (f_this_readers : Nat → Int32) (f_this_eighths : Nat → Int32) (f_this_wishes : Nat → Int32) (v_p1_words : Int32) (v_p1_roads : Int32) (f_p1_kinds : Nat → Int32) (f_p1_sets : Nat → Int32) (f_p1_weights : Nat → Int32) (f_p1_stocks : Nat → Int32) (f_p1_readers : Nat → Int32) (f_p1_eighths : Nat → Int32) (f_p1_wishes : Nat → Int32) : va_W := [(q_this, .inr (7, [.ref q_this_kinds, .ref q_this_sets, .ref q_this_weights, .ref q_this_stocks, .int v_this_words, .ref q_this_readers, .ref q_this_eighths, .ref q_this_wishes, .int v_this_roads])),
  (q_this_kinds, .inl (cI, 6, .inl f_this_kinds)),
  (q_this_sets, .inl (cI, 6, .inl f_this_sets)),
  (q_this_weights, .inl (cI, 6, .inl f_this_weights)),
  (q_this_stocks, .inl (cI, 6, .inl f_this_stocks)),
  (q_this_readers, .inl (cI, 6, .inl f_this_readers)),
  (q_this_eighths, .inl (cI, 6, .inl f_this_eighths)),
  (q_this_wishes, .inl (cI, 6, .inl f_this_wishes)),
  (q_p1, .inr (7, [.ref q_p1_kinds, .ref q_p1_sets, .ref q_p1_weights, .ref q_p1_stocks, .int v_p1_words, .ref q_p1_readers, .ref q_p1_eighths, .ref q_p1_wishes, .int v_p1_roads])),
  (q_p1_kinds, .inl (cI, 6, .inl f_p1_kinds)),
  (q_p1_sets, .inl (cI, 6, .inl f_p1_sets)),
  (q_p1_weights, .inl (cI, 6, .inl f_p1_weights)),
  (q_p1_stocks, .inl (cI, 6, .inl f_p1_stocks)),
  (q_p1_readers, .inl (cI, 6, .inl f_p1_readers)),
  (q_p1_eighths, .inl (cI, 6, .inl f_p1_eighths)),
  (q_p1_wishes, .inl (cI, 6, .inl f_p1_wishes))]
abbrev zr_X8_copyFrom : Room := { frames := 1, cells := 0, slots := 0, locals := 60 }
set_option maxHeartbeats 4000000 in
set_option maxRecDepth 100000 in
theorem c_X8_copyFrom (l : Launch) (dC : Nat → ClassId) (dI : Nat → Nat → Nat) (cI cC cS : ClassId) (q_this : Nat) (q_this_kinds : Nat) (q_this_sets : Nat) (q_this_weights : Nat) (q_this_stocks : Nat) (q_this_readers : Nat) (q_this_eighths : Nat) (q_this_wishes : Nat) (q_p1 : Nat) (q_p1_kinds : Nat) (q_p1_sets : Nat) (q_p1_weights : Nat) (q_p1_stocks : Nat) (q_p1_readers : Nat) (q_p1_eighths : Nat) (q_p1_wishes : Nat) (sz : Nat) (v_this_words : Int32) (v_this_roads : Int32) (f_this_kinds : Nat → Int32) (f_this_sets : Nat → Int32) (f_this_weights : Nat → Int32) (f_this_stocks : Nat → Int32) (f_this_readers : Nat → Int32) (f_this_eighths : Nat → Int32) (f_this_wishes : Nat → Int32) (v_p1_words : Int32) (v_p1_roads : Int32) (f_p1_kinds : Nat → Int32) (f_p1_sets : Nat → Int32) (f_p1_weights : Nat → Int32) (f_p1_stocks : Nat → Int32) (f_p1_readers : Nat → Int32) (f_p1_eighths : Nat → Int32) (f_p1_wishes : Nat → Int32) (N : Nat) (Φ : Int32 → Int32 → (Nat → Int32) → (Nat → Int32) → (Nat → Int32) → (Nat → Int32) → (Nat → Int32) → (Nat → Int32) → (Nat → Int32) → Prop)  (hf : wp_X8_copyFrom N v_this_words v_this_roads f_this_kinds f_this_sets f_this_weights f_this_stocks f_this_readers f_this_eighths f_this_wishes v_p1_words v_p1_roads f_p1_kinds f_p1_sets f_p1_weights f_p1_stocks f_p1_readers f_p1_eighths f_p1_wishes Φ) : Met l yX8_copyFrom wsX8_copyFrom zr_X8_copyFrom (zPc (dC, dI) (zT cI cC cS) [.ref q_this, .ref q_p1] sz (zW_X8_copyFrom cI cC cS q_this q_this_kinds q_this_sets q_this_weights q_this_stocks q_this_readers q_this_eighths q_this_wishes q_p1 q_p1_kinds q_p1_sets q_p1_weights q_p1_stocks q_p1_readers q_p1_eighths q_p1_wishes v_this_words v_this_roads f_this_kinds f_this_sets f_this_weights f_this_stocks f_this_readers f_this_eighths f_this_wishes v_p1_words v_p1_roads f_p1_kinds f_p1_sets f_p1_weights f_p1_stocks f_p1_readers f_p1_eighths f_p1_wishes)) (zQv (dC, dI) (zT cI cC cS) (va_A (zW_X8_copyFrom cI cC cS q_this q_this_kinds q_this_sets q_this_weights q_this_stocks q_this_readers q_this_eighths q_this_wishes q_p1 q_p1_kinds q_p1_sets q_p1_weights q_p1_stocks q_p1_readers q_p1_eighths q_p1_wishes v_this_words v_this_roads f_this_kinds f_this_sets f_this_weights f_this_stocks f_this_readers f_this_eighths f_this_wishes v_p1_words v_p1_roads f_p1_kinds f_p1_sets f_p1_weights f_p1_stocks f_p1_readers f_p1_eighths f_p1_wishes) sz) (fun (u : (Int32) × (Int32) × (Nat → Int32) × (Nat → Int32) × (Nat → Int32) × (Nat → Int32) × (Nat → Int32) × (Nat → Int32) × (Nat → Int32)) => Φ u.1 u.2.1 u.2.2.1 u.2.2.2.1 u.2.2.2.2.1 u.2.2.2.2.2.1 u.2.2.2.2.2.2.1 u.2.2.2.2.2.2.2.1 u.2.2.2.2.2.2.2.2) (fun u => (zW_X8_copyFrom cI cC cS q_this q_this_kinds q_this_sets q_this_weights q_this_stocks q_this_readers q_this_eighths q_this_wishes q_p1 q_p1_kinds q_p1_sets q_p1_weights q_p1_stocks q_p1_readers q_p1_eighths q_p1_wishes u.1 u.2.1 u.2.2.1 u.2.2.2.1 u.2.2.2.2.1 u.2.2.2.2.2.1 u.2.2.2.2.2.2.1 u.2.2.2.2.2.2.2.1 u.2.2.2.2.2.2.2.2 v_p1_words v_p1_roads f_p1_kinds f_p1_sets f_p1_weights f_p1_stocks f_p1_readers f_p1_eighths f_p1_wishes))) 0 0 (va_A (zW_X8_copyFrom cI cC cS q_this q_this_kinds q_this_sets q_this_weights q_this_stocks q_this_readers q_this_eighths q_this_wishes q_p1 q_p1_kinds q_p1_sets q_p1_weights q_p1_stocks q_p1_readers q_p1_eighths q_p1_wishes v_this_words v_this_roads f_this_kinds f_this_sets f_this_weights f_this_stocks f_this_readers f_this_eighths f_this_wishes v_p1_words v_p1_roads f_p1_kinds f_p1_sets f_p1_weights f_p1_stocks f_p1_readers f_p1_eighths f_p1_wishes) sz) := by
  refine Met.ofW (cc := cX8_copyFrom) (maxL := 2) (ret := none) (by decide) rfl ?_
  intro p e s m args below meth c s₁ B hml hv
  obtain ⟨rfl, hsz, hP, hK, hD0⟩ := hv
  have hx := B.exec
  have hb := B.bytes
  have hr := B.returns
  have hts := atoms_spec (ws := wsX8_copyFrom) B.pre
  have hown : s.vm.findClass RX8 = some m.cls := findClass_of_methodNamed B.named
  have hlocks := B.notSynchronized
  subst hsz
  have hD := hD0.self (sz := s.heap.size)
  have hA : ∀ q : Nat, s.heap.size ≤ q → va_A (zW_X8_copyFrom cI cC cS q_this q_this_kinds q_this_sets q_this_weights q_this_stocks q_this_readers q_this_eighths q_this_wishes q_p1 q_p1_kinds q_p1_sets q_p1_weights q_p1_stocks q_p1_readers q_p1_eighths q_p1_wishes v_this_words v_this_roads f_this_kinds f_this_sets f_this_weights f_this_stocks f_this_readers f_this_eighths f_this_wishes v_p1_words v_p1_roads f_p1_kinds f_p1_sets f_p1_weights f_p1_stocks f_p1_readers f_p1_eighths f_p1_wishes) s.heap.size q := fun q h => Or.inr h
  generalize va_A (zW_X8_copyFrom cI cC cS q_this q_this_kinds q_this_sets q_this_weights q_this_stocks q_this_readers q_this_eighths q_this_wishes q_p1 q_p1_kinds q_p1_sets q_p1_weights q_p1_stocks q_p1_readers q_p1_eighths q_p1_wishes v_this_words v_this_roads f_this_kinds f_this_sets f_this_weights f_this_stocks f_this_readers f_this_eighths f_this_wishes v_p1_words v_p1_roads f_p1_kinds f_p1_sets f_p1_weights f_p1_stocks f_p1_readers f_p1_eighths f_p1_wishes) s.heap.size = A at hD hA ⊢
  have hS : va_S A s.heap s.heap [] := va_S.rf
  have hl := lv_entry ([.ref q_this, .ref q_p1]) (n := 2) (Nat.le_of_ble_eq_true rfl)
  rw [lg_entry_eq]
  generalize (lg_sl ([.ref q_this, .ref q_p1]) ++ List.replicate (2 - (lg_sl ([.ref q_this, .ref q_p1])).length) Slot.unset).toArray = ls at hl ⊢
  have hl : lv_has ls 2 [(0, .ref q_this), (1, .ref q_p1)] := hl
  have lk1 := hts (.fieldLink RX8 9 "ReadFromAnywhere$Tongue" "kinds" "[I") (List.mem_of_getElem? (i := 1) rfl)
  have inX8 : ∀ w ∈ u_ws RX8 TX8 9, w ∈ wsX8_copyFrom := fun _ h => List.mem_cons_of_mem _ (List.mem_append_right _ h)
  have lk3 := hts (.native arraycopyName) (List.mem_of_getElem? (i := 3) rfl)
  have lk4 := hts (.static arraycopyName) (List.mem_of_getElem? (i := 4) rfl)
  have lk5 := hts (.initialized "java/lang/System") (List.mem_of_getElem? (i := 5) rfl)
  have lk2 := hts (.methodLink RX8 40 arraycopyName) (List.mem_of_getElem? (i := 2) rfl)
  have lk6 := hts (.fieldLink RX8 15 "ReadFromAnywhere$Tongue" "sets" "[I") (List.mem_of_getElem? (i := 6) rfl)
  have lk7 := hts (.fieldLink RX8 18 "ReadFromAnywhere$Tongue" "weights" "[I") (List.mem_of_getElem? (i := 7) rfl)
  have lk8 := hts (.fieldLink RX8 21 "ReadFromAnywhere$Tongue" "stocks" "[I") (List.mem_of_getElem? (i := 8) rfl)
  have lk9 := hts (.fieldLink RX8 24 "ReadFromAnywhere$Tongue" "words" "I") (List.mem_of_getElem? (i := 9) rfl)
  have lk10 := hts (.fieldLink RX8 28 "ReadFromAnywhere$Tongue" "readers" "[I") (List.mem_of_getElem? (i := 10) rfl)
  have lk11 := hts (.fieldLink RX8 31 "ReadFromAnywhere$Tongue" "eighths" "[I") (List.mem_of_getElem? (i := 11) rfl)
  have lk12 := hts (.fieldLink RX8 34 "ReadFromAnywhere$Tongue" "wishes" "[I") (List.mem_of_getElem? (i := 12) rfl)
  have lk13 := hts (.fieldLink RX8 37 "ReadFromAnywhere$Tongue" "roads" "I") (List.mem_of_getElem? (i := 13) rfl)
  unfold wp_X8_copyFrom at hf
  refine lv_aload_n hx hb dX8_copyFrom_0 rfl (lv_at hl 1 rfl) ?_
  refine va_get (D := (dC, dI)) (ci := 7) (v := .ref q_p1_kinds) (C := RX8) (T := TX8) (N := 9) hx hb hts inX8 hown hK hP 8 rfl rfl 0 (by decide) lk1 (fun _ h9 => h9) rfl dX8_copyFrom_1 ?_
  refine lv_iconst (v := 0) hx hb dX8_copyFrom_4 (by decide) ?_
  refine lv_aload_n hx hb dX8_copyFrom_5 rfl (lv_at hl 0 rfl) ?_
  refine va_get (D := (dC, dI)) (ci := 7) (v := .ref q_this_kinds) (C := RX8) (T := TX8) (N := 9) hx hb hts inX8 hown hK hP 0 rfl rfl 0 (by decide) lk1 (fun _ h9 => h9) rfl dX8_copyFrom_6 ?_
  refine lv_iconst (v := 0) hx hb dX8_copyFrom_9 (by decide) ?_
  refine lv_bipush (v := 6) hx hb dX8_copyFrom_10 (by decide) ?_
  refine va_copyi (ty := .int) (sp := 0) (dp := 0) (n := 6) hx hb (hml.trans hl.1.symm) hown lk2 lk3 lk4 lk5 hK hP hD hS 9 1 0 0 rfl rfl rfl rfl rfl (by decide) (by decide) (by decide) (by decide) (by decide) (fun _ _ => rfl) (Nat.le_of_ble_eq_true rfl) (Nat.le_of_ble_eq_true rfl) dX8_copyFrom_12 (fun H locs hP hD hS => ?_)
  have hP : va_P (dC, dI) vwCl (zW_X8_copyFrom cI cC cS q_this q_this_kinds q_this_sets q_this_weights q_this_stocks q_this_readers q_this_eighths q_this_wishes q_p1 q_p1_kinds q_p1_sets q_p1_weights q_p1_stocks q_p1_readers q_p1_eighths q_p1_wishes v_this_words v_this_roads (va_cpy f_p1_kinds f_this_kinds (Int32.toNatClampNeg 0) (Int32.toNatClampNeg 0) (Int32.toNatClampNeg 6)) f_this_sets f_this_weights f_this_stocks f_this_readers f_this_eighths f_this_wishes v_p1_words v_p1_roads f_p1_kinds f_p1_sets f_p1_weights f_p1_stocks f_p1_readers f_p1_eighths f_p1_wishes) H := hP
  have hD : va_D A (zW_X8_copyFrom cI cC cS q_this q_this_kinds q_this_sets q_this_weights q_this_stocks q_this_readers q_this_eighths q_this_wishes q_p1 q_p1_kinds q_p1_sets q_p1_weights q_p1_stocks q_p1_readers q_p1_eighths q_p1_wishes v_this_words v_this_roads (va_cpy f_p1_kinds f_this_kinds (Int32.toNatClampNeg 0) (Int32.toNatClampNeg 0) (Int32.toNatClampNeg 6)) f_this_sets f_this_weights f_this_stocks f_this_readers f_this_eighths f_this_wishes v_p1_words v_p1_roads f_p1_kinds f_p1_sets f_p1_weights f_p1_stocks f_p1_readers f_p1_eighths f_p1_wishes) := hD
  refine lv_aload_n hx hb dX8_copyFrom_15 rfl (lv_at hl 1 rfl) ?_
  refine va_get (D := (dC, dI)) (ci := 7) (v := .ref q_p1_sets) (C := RX8) (T := TX8) (N := 9) hx hb hts inX8 hown hK hP 8 rfl rfl 1 (by decide) lk6 (fun _ h9 => h9) rfl dX8_copyFrom_16 ?_
  refine lv_iconst (v := 0) hx hb dX8_copyFrom_19 (by decide) ?_
  refine lv_aload_n hx hb dX8_copyFrom_20 rfl (lv_at hl 0 rfl) ?_
  refine va_get (D := (dC, dI)) (ci := 7) (v := .ref q_this_sets) (C := RX8) (T := TX8) (N := 9) hx hb hts inX8 hown hK hP 0 rfl rfl 1 (by decide) lk6 (fun _ h9 => h9) rfl dX8_copyFrom_21 ?_
  refine lv_iconst (v := 0) hx hb dX8_copyFrom_24 (by decide) ?_
  refine lv_bipush (v := 6) hx hb dX8_copyFrom_25 (by decide) ?_
  refine va_copyi (ty := .int) (sp := 0) (dp := 0) (n := 6) hx hb (hml.trans hl.1.symm) hown lk2 lk3 lk4 lk5 hK hP hD hS 10 2 0 0 rfl rfl rfl rfl rfl (by decide) (by decide) (by decide) (by decide) (by decide) (fun _ _ => rfl) (Nat.le_of_ble_eq_true rfl) (Nat.le_of_ble_eq_true rfl) dX8_copyFrom_27 (fun H locs hP hD hS => ?_)
  have hP : va_P (dC, dI) vwCl (zW_X8_copyFrom cI cC cS q_this q_this_kinds q_this_sets q_this_weights q_this_stocks q_this_readers q_this_eighths q_this_wishes q_p1 q_p1_kinds q_p1_sets q_p1_weights q_p1_stocks q_p1_readers q_p1_eighths q_p1_wishes v_this_words v_this_roads (va_cpy f_p1_kinds f_this_kinds (Int32.toNatClampNeg 0) (Int32.toNatClampNeg 0) (Int32.toNatClampNeg 6)) (va_cpy f_p1_sets f_this_sets (Int32.toNatClampNeg 0) (Int32.toNatClampNeg 0) (Int32.toNatClampNeg 6)) f_this_weights f_this_stocks f_this_readers f_this_eighths f_this_wishes v_p1_words v_p1_roads f_p1_kinds f_p1_sets f_p1_weights f_p1_stocks f_p1_readers f_p1_eighths f_p1_wishes) H := hP
  have hD : va_D A (zW_X8_copyFrom cI cC cS q_this q_this_kinds q_this_sets q_this_weights q_this_stocks q_this_readers q_this_eighths q_this_wishes q_p1 q_p1_kinds q_p1_sets q_p1_weights q_p1_stocks q_p1_readers q_p1_eighths q_p1_wishes v_this_words v_this_roads (va_cpy f_p1_kinds f_this_kinds (Int32.toNatClampNeg 0) (Int32.toNatClampNeg 0) (Int32.toNatClampNeg 6)) (va_cpy f_p1_sets f_this_sets (Int32.toNatClampNeg 0) (Int32.toNatClampNeg 0) (Int32.toNatClampNeg 6)) f_this_weights f_this_stocks f_this_readers f_this_eighths f_this_wishes v_p1_words v_p1_roads f_p1_kinds f_p1_sets f_p1_weights f_p1_stocks f_p1_readers f_p1_eighths f_p1_wishes) := hD
  refine lv_aload_n hx hb dX8_copyFrom_30 rfl (lv_at hl 1 rfl) ?_
  refine va_get (D := (dC, dI)) (ci := 7) (v := .ref q_p1_weights) (C := RX8) (T := TX8) (N := 9) hx hb hts inX8 hown hK hP 8 rfl rfl 2 (by decide) lk7 (fun _ h9 => h9) rfl dX8_copyFrom_31 ?_
  refine lv_iconst (v := 0) hx hb dX8_copyFrom_34 (by decide) ?_
  refine lv_aload_n hx hb dX8_copyFrom_35 rfl (lv_at hl 0 rfl) ?_
  refine va_get (D := (dC, dI)) (ci := 7) (v := .ref q_this_weights) (C := RX8) (T := TX8) (N := 9) hx hb hts inX8 hown hK hP 0 rfl rfl 2 (by decide) lk7 (fun _ h9 => h9) rfl dX8_copyFrom_36 ?_
  refine lv_iconst (v := 0) hx hb dX8_copyFrom_39 (by decide) ?_
  refine lv_bipush (v := 6) hx hb dX8_copyFrom_40 (by decide) ?_
  refine va_copyi (ty := .int) (sp := 0) (dp := 0) (n := 6) hx hb (hml.trans hl.1.symm) hown lk2 lk3 lk4 lk5 hK hP hD hS 11 3 0 0 rfl rfl rfl rfl rfl (by decide) (by decide) (by decide) (by decide) (by decide) (fun _ _ => rfl) (Nat.le_of_ble_eq_true rfl) (Nat.le_of_ble_eq_true rfl) dX8_copyFrom_42 (fun H locs hP hD hS => ?_)
  have hP : va_P (dC, dI) vwCl (zW_X8_copyFrom cI cC cS q_this q_this_kinds q_this_sets q_this_weights q_this_stocks q_this_readers q_this_eighths q_this_wishes q_p1 q_p1_kinds q_p1_sets q_p1_weights q_p1_stocks q_p1_readers q_p1_eighths q_p1_wishes v_this_words v_this_roads (va_cpy f_p1_kinds f_this_kinds (Int32.toNatClampNeg 0) (Int32.toNatClampNeg 0) (Int32.toNatClampNeg 6)) (va_cpy f_p1_sets f_this_sets (Int32.toNatClampNeg 0) (Int32.toNatClampNeg 0) (Int32.toNatClampNeg 6)) (va_cpy f_p1_weights f_this_weights (Int32.toNatClampNeg 0) (Int32.toNatClampNeg 0) (Int32.toNatClampNeg 6)) f_this_stocks f_this_readers f_this_eighths f_this_wishes v_p1_words v_p1_roads f_p1_kinds f_p1_sets f_p1_weights f_p1_stocks f_p1_readers f_p1_eighths f_p1_wishes) H := hP
  have hD : va_D A (zW_X8_copyFrom cI cC cS q_this q_this_kinds q_this_sets q_this_weights q_this_stocks q_this_readers q_this_eighths q_this_wishes q_p1 q_p1_kinds q_p1_sets q_p1_weights q_p1_stocks q_p1_readers q_p1_eighths q_p1_wishes v_this_words v_this_roads (va_cpy f_p1_kinds f_this_kinds (Int32.toNatClampNeg 0) (Int32.toNatClampNeg 0) (Int32.toNatClampNeg 6)) (va_cpy f_p1_sets f_this_sets (Int32.toNatClampNeg 0) (Int32.toNatClampNeg 0) (Int32.toNatClampNeg 6)) (va_cpy f_p1_weights f_this_weights (Int32.toNatClampNeg 0) (Int32.toNatClampNeg 0) (Int32.toNatClampNeg 6)) f_this_stocks f_this_readers f_this_eighths f_this_wishes v_p1_words v_p1_roads f_p1_kinds f_p1_sets f_p1_weights f_p1_stocks f_p1_readers f_p1_eighths f_p1_wishes) := hD
  refine lv_aload_n hx hb dX8_copyFrom_45 rfl (lv_at hl 1 rfl) ?_
  refine va_get (D := (dC, dI)) (ci := 7) (v := .ref q_p1_stocks) (C := RX8) (T := TX8) (N := 9) hx hb hts inX8 hown hK hP 8 rfl rfl 3 (by decide) lk8 (fun _ h9 => h9) rfl dX8_copyFrom_46 ?_
  refine lv_iconst (v := 0) hx hb dX8_copyFrom_49 (by decide) ?_
  refine lv_aload_n hx hb dX8_copyFrom_50 rfl (lv_at hl 0 rfl) ?_
  refine va_get (D := (dC, dI)) (ci := 7) (v := .ref q_this_stocks) (C := RX8) (T := TX8) (N := 9) hx hb hts inX8 hown hK hP 0 rfl rfl 3 (by decide) lk8 (fun _ h9 => h9) rfl dX8_copyFrom_51 ?_
  refine lv_iconst (v := 0) hx hb dX8_copyFrom_54 (by decide) ?_
  refine lv_bipush (v := 6) hx hb dX8_copyFrom_55 (by decide) ?_
  refine va_copyi (ty := .int) (sp := 0) (dp := 0) (n := 6) hx hb (hml.trans hl.1.symm) hown lk2 lk3 lk4 lk5 hK hP hD hS 12 4 0 0 rfl rfl rfl rfl rfl (by decide) (by decide) (by decide) (by decide) (by decide) (fun _ _ => rfl) (Nat.le_of_ble_eq_true rfl) (Nat.le_of_ble_eq_true rfl) dX8_copyFrom_57 (fun H locs hP hD hS => ?_)
  have hP : va_P (dC, dI) vwCl (zW_X8_copyFrom cI cC cS q_this q_this_kinds q_this_sets q_this_weights q_this_stocks q_this_readers q_this_eighths q_this_wishes q_p1 q_p1_kinds q_p1_sets q_p1_weights q_p1_stocks q_p1_readers q_p1_eighths q_p1_wishes v_this_words v_this_roads (va_cpy f_p1_kinds f_this_kinds (Int32.toNatClampNeg 0) (Int32.toNatClampNeg 0) (Int32.toNatClampNeg 6)) (va_cpy f_p1_sets f_this_sets (Int32.toNatClampNeg 0) (Int32.toNatClampNeg 0) (Int32.toNatClampNeg 6)) (va_cpy f_p1_weights f_this_weights (Int32.toNatClampNeg 0) (Int32.toNatClampNeg 0) (Int32.toNatClampNeg 6)) (va_cpy f_p1_stocks f_this_stocks (Int32.toNatClampNeg 0) (Int32.toNatClampNeg 0) (Int32.toNatClampNeg 6)) f_this_readers f_this_eighths f_this_wishes v_p1_words v_p1_roads f_p1_kinds f_p1_sets f_p1_weights f_p1_stocks f_p1_readers f_p1_eighths f_p1_wishes) H := hP
  have hD : va_D A (zW_X8_copyFrom cI cC cS q_this q_this_kinds q_this_sets q_this_weights q_this_stocks q_this_readers q_this_eighths q_this_wishes q_p1 q_p1_kinds q_p1_sets q_p1_weights q_p1_stocks q_p1_readers q_p1_eighths q_p1_wishes v_this_words v_this_roads (va_cpy f_p1_kinds f_this_kinds (Int32.toNatClampNeg 0) (Int32.toNatClampNeg 0) (Int32.toNatClampNeg 6)) (va_cpy f_p1_sets f_this_sets (Int32.toNatClampNeg 0) (Int32.toNatClampNeg 0) (Int32.toNatClampNeg 6)) (va_cpy f_p1_weights f_this_weights (Int32.toNatClampNeg 0) (Int32.toNatClampNeg 0) (Int32.toNatClampNeg 6)) (va_cpy f_p1_stocks f_this_stocks (Int32.toNatClampNeg 0) (Int32.toNatClampNeg 0) (Int32.toNatClampNeg 6)) f_this_readers f_this_eighths f_this_wishes v_p1_words v_p1_roads f_p1_kinds f_p1_sets f_p1_weights f_p1_stocks f_p1_readers f_p1_eighths f_p1_wishes) := hD
  refine lv_aload_n hx hb dX8_copyFrom_60 rfl (lv_at hl 0 rfl) ?_
  refine lv_aload_n hx hb dX8_copyFrom_61 rfl (lv_at hl 1 rfl) ?_
  refine va_get (D := (dC, dI)) (ci := 7) (v := .int v_p1_words) (C := RX8) (T := TX8) (N := 9) hx hb hts inX8 hown hK hP 8 rfl rfl 4 (by decide) lk9 (fun _ h9 => h9) rfl dX8_copyFrom_62 ?_
  refine va_put (D := (dC, dI)) (ci := 7) (v := .int v_p1_words) (ty := .int) (C := RX8) (T := TX8) (N := 9) hx hb hts inX8 tyX8 tyX8_ok nmX8 hown hK hP hD hS 0 rfl rfl 4 (by decide) lk9 (fun _ h9 => h9) rfl (by decide +kernel) rfl rfl (Nat.le_of_ble_eq_true rfl) dX8_copyFrom_65 (fun H locs hP hD hS => ?_)
  have hP : va_P (dC, dI) vwCl (zW_X8_copyFrom cI cC cS q_this q_this_kinds q_this_sets q_this_weights q_this_stocks q_this_readers q_this_eighths q_this_wishes q_p1 q_p1_kinds q_p1_sets q_p1_weights q_p1_stocks q_p1_readers q_p1_eighths q_p1_wishes v_p1_words v_this_roads (va_cpy f_p1_kinds f_this_kinds (Int32.toNatClampNeg 0) (Int32.toNatClampNeg 0) (Int32.toNatClampNeg 6)) (va_cpy f_p1_sets f_this_sets (Int32.toNatClampNeg 0) (Int32.toNatClampNeg 0) (Int32.toNatClampNeg 6)) (va_cpy f_p1_weights f_this_weights (Int32.toNatClampNeg 0) (Int32.toNatClampNeg 0) (Int32.toNatClampNeg 6)) (va_cpy f_p1_stocks f_this_stocks (Int32.toNatClampNeg 0) (Int32.toNatClampNeg 0) (Int32.toNatClampNeg 6)) f_this_readers f_this_eighths f_this_wishes v_p1_words v_p1_roads f_p1_kinds f_p1_sets f_p1_weights f_p1_stocks f_p1_readers f_p1_eighths f_p1_wishes) H := hP
  have hD : va_D A (zW_X8_copyFrom cI cC cS q_this q_this_kinds q_this_sets q_this_weights q_this_stocks q_this_readers q_this_eighths q_this_wishes q_p1 q_p1_kinds q_p1_sets q_p1_weights q_p1_stocks q_p1_readers q_p1_eighths q_p1_wishes v_p1_words v_this_roads (va_cpy f_p1_kinds f_this_kinds (Int32.toNatClampNeg 0) (Int32.toNatClampNeg 0) (Int32.toNatClampNeg 6)) (va_cpy f_p1_sets f_this_sets (Int32.toNatClampNeg 0) (Int32.toNatClampNeg 0) (Int32.toNatClampNeg 6)) (va_cpy f_p1_weights f_this_weights (Int32.toNatClampNeg 0) (Int32.toNatClampNeg 0) (Int32.toNatClampNeg 6)) (va_cpy f_p1_stocks f_this_stocks (Int32.toNatClampNeg 0) (Int32.toNatClampNeg 0) (Int32.toNatClampNeg 6)) f_this_readers f_this_eighths f_this_wishes v_p1_words v_p1_roads f_p1_kinds f_p1_sets f_p1_weights f_p1_stocks f_p1_readers f_p1_eighths f_p1_wishes) := hD
  refine lv_aload_n hx hb dX8_copyFrom_68 rfl (lv_at hl 1 rfl) ?_
  refine va_get (D := (dC, dI)) (ci := 7) (v := .ref q_p1_readers) (C := RX8) (T := TX8) (N := 9) hx hb hts inX8 hown hK hP 8 rfl rfl 5 (by decide) lk10 (fun _ h9 => h9) rfl dX8_copyFrom_69 ?_
  refine lv_iconst (v := 0) hx hb dX8_copyFrom_72 (by decide) ?_
  refine lv_aload_n hx hb dX8_copyFrom_73 rfl (lv_at hl 0 rfl) ?_
  refine va_get (D := (dC, dI)) (ci := 7) (v := .ref q_this_readers) (C := RX8) (T := TX8) (N := 9) hx hb hts inX8 hown hK hP 0 rfl rfl 5 (by decide) lk10 (fun _ h9 => h9) rfl dX8_copyFrom_74 ?_
  refine lv_iconst (v := 0) hx hb dX8_copyFrom_77 (by decide) ?_
  refine lv_bipush (v := 6) hx hb dX8_copyFrom_78 (by decide) ?_
  refine va_copyi (ty := .int) (sp := 0) (dp := 0) (n := 6) hx hb (hml.trans hl.1.symm) hown lk2 lk3 lk4 lk5 hK hP hD hS 13 5 0 0 rfl rfl rfl rfl rfl (by decide) (by decide) (by decide) (by decide) (by decide) (fun _ _ => rfl) (Nat.le_of_ble_eq_true rfl) (Nat.le_of_ble_eq_true rfl) dX8_copyFrom_80 (fun H locs hP hD hS => ?_)
  have hP : va_P (dC, dI) vwCl (zW_X8_copyFrom cI cC cS q_this q_this_kinds q_this_sets q_this_weights q_this_stocks q_this_readers q_this_eighths q_this_wishes q_p1 q_p1_kinds q_p1_sets q_p1_weights q_p1_stocks q_p1_readers q_p1_eighths q_p1_wishes v_p1_words v_this_roads (va_cpy f_p1_kinds f_this_kinds (Int32.toNatClampNeg 0) (Int32.toNatClampNeg 0) (Int32.toNatClampNeg 6)) (va_cpy f_p1_sets f_this_sets (Int32.toNatClampNeg 0) (Int32.toNatClampNeg 0) (Int32.toNatClampNeg 6)) (va_cpy f_p1_weights f_this_weights (Int32.toNatClampNeg 0) (Int32.toNatClampNeg 0) (Int32.toNatClampNeg 6)) (va_cpy f_p1_stocks f_this_stocks (Int32.toNatClampNeg 0) (Int32.toNatClampNeg 0) (Int32.toNatClampNeg 6)) (va_cpy f_p1_readers f_this_readers (Int32.toNatClampNeg 0) (Int32.toNatClampNeg 0) (Int32.toNatClampNeg 6)) f_this_eighths f_this_wishes v_p1_words v_p1_roads f_p1_kinds f_p1_sets f_p1_weights f_p1_stocks f_p1_readers f_p1_eighths f_p1_wishes) H := hP
  have hD : va_D A (zW_X8_copyFrom cI cC cS q_this q_this_kinds q_this_sets q_this_weights q_this_stocks q_this_readers q_this_eighths q_this_wishes q_p1 q_p1_kinds q_p1_sets q_p1_weights q_p1_stocks q_p1_readers q_p1_eighths q_p1_wishes v_p1_words v_this_roads (va_cpy f_p1_kinds f_this_kinds (Int32.toNatClampNeg 0) (Int32.toNatClampNeg 0) (Int32.toNatClampNeg 6)) (va_cpy f_p1_sets f_this_sets (Int32.toNatClampNeg 0) (Int32.toNatClampNeg 0) (Int32.toNatClampNeg 6)) (va_cpy f_p1_weights f_this_weights (Int32.toNatClampNeg 0) (Int32.toNatClampNeg 0) (Int32.toNatClampNeg 6)) (va_cpy f_p1_stocks f_this_stocks (Int32.toNatClampNeg 0) (Int32.toNatClampNeg 0) (Int32.toNatClampNeg 6)) (va_cpy f_p1_readers f_this_readers (Int32.toNatClampNeg 0) (Int32.toNatClampNeg 0) (Int32.toNatClampNeg 6)) f_this_eighths f_this_wishes v_p1_words v_p1_roads f_p1_kinds f_p1_sets f_p1_weights f_p1_stocks f_p1_readers f_p1_eighths f_p1_wishes) := hD
  refine lv_aload_n hx hb dX8_copyFrom_83 rfl (lv_at hl 1 rfl) ?_
  refine va_get (D := (dC, dI)) (ci := 7) (v := .ref q_p1_eighths) (C := RX8) (T := TX8) (N := 9) hx hb hts inX8 hown hK hP 8 rfl rfl 6 (by decide) lk11 (fun _ h9 => h9) rfl dX8_copyFrom_84 ?_
  refine lv_iconst (v := 0) hx hb dX8_copyFrom_87 (by decide) ?_
  refine lv_aload_n hx hb dX8_copyFrom_88 rfl (lv_at hl 0 rfl) ?_
  refine va_get (D := (dC, dI)) (ci := 7) (v := .ref q_this_eighths) (C := RX8) (T := TX8) (N := 9) hx hb hts inX8 hown hK hP 0 rfl rfl 6 (by decide) lk11 (fun _ h9 => h9) rfl dX8_copyFrom_89 ?_
  refine lv_iconst (v := 0) hx hb dX8_copyFrom_92 (by decide) ?_
  refine lv_bipush (v := 6) hx hb dX8_copyFrom_93 (by decide) ?_
  refine va_copyi (ty := .int) (sp := 0) (dp := 0) (n := 6) hx hb (hml.trans hl.1.symm) hown lk2 lk3 lk4 lk5 hK hP hD hS 14 6 0 0 rfl rfl rfl rfl rfl (by decide) (by decide) (by decide) (by decide) (by decide) (fun _ _ => rfl) (Nat.le_of_ble_eq_true rfl) (Nat.le_of_ble_eq_true rfl) dX8_copyFrom_95 (fun H locs hP hD hS => ?_)
  have hP : va_P (dC, dI) vwCl (zW_X8_copyFrom cI cC cS q_this q_this_kinds q_this_sets q_this_weights q_this_stocks q_this_readers q_this_eighths q_this_wishes q_p1 q_p1_kinds q_p1_sets q_p1_weights q_p1_stocks q_p1_readers q_p1_eighths q_p1_wishes v_p1_words v_this_roads (va_cpy f_p1_kinds f_this_kinds (Int32.toNatClampNeg 0) (Int32.toNatClampNeg 0) (Int32.toNatClampNeg 6)) (va_cpy f_p1_sets f_this_sets (Int32.toNatClampNeg 0) (Int32.toNatClampNeg 0) (Int32.toNatClampNeg 6)) (va_cpy f_p1_weights f_this_weights (Int32.toNatClampNeg 0) (Int32.toNatClampNeg 0) (Int32.toNatClampNeg 6)) (va_cpy f_p1_stocks f_this_stocks (Int32.toNatClampNeg 0) (Int32.toNatClampNeg 0) (Int32.toNatClampNeg 6)) (va_cpy f_p1_readers f_this_readers (Int32.toNatClampNeg 0) (Int32.toNatClampNeg 0) (Int32.toNatClampNeg 6)) (va_cpy f_p1_eighths f_this_eighths (Int32.toNatClampNeg 0) (Int32.toNatClampNeg 0) (Int32.toNatClampNeg 6)) f_this_wishes v_p1_words v_p1_roads f_p1_kinds f_p1_sets f_p1_weights f_p1_stocks f_p1_readers f_p1_eighths f_p1_wishes) H := hP
  have hD : va_D A (zW_X8_copyFrom cI cC cS q_this q_this_kinds q_this_sets q_this_weights q_this_stocks q_this_readers q_this_eighths q_this_wishes q_p1 q_p1_kinds q_p1_sets q_p1_weights q_p1_stocks q_p1_readers q_p1_eighths q_p1_wishes v_p1_words v_this_roads (va_cpy f_p1_kinds f_this_kinds (Int32.toNatClampNeg 0) (Int32.toNatClampNeg 0) (Int32.toNatClampNeg 6)) (va_cpy f_p1_sets f_this_sets (Int32.toNatClampNeg 0) (Int32.toNatClampNeg 0) (Int32.toNatClampNeg 6)) (va_cpy f_p1_weights f_this_weights (Int32.toNatClampNeg 0) (Int32.toNatClampNeg 0) (Int32.toNatClampNeg 6)) (va_cpy f_p1_stocks f_this_stocks (Int32.toNatClampNeg 0) (Int32.toNatClampNeg 0) (Int32.toNatClampNeg 6)) (va_cpy f_p1_readers f_this_readers (Int32.toNatClampNeg 0) (Int32.toNatClampNeg 0) (Int32.toNatClampNeg 6)) (va_cpy f_p1_eighths f_this_eighths (Int32.toNatClampNeg 0) (Int32.toNatClampNeg 0) (Int32.toNatClampNeg 6)) f_this_wishes v_p1_words v_p1_roads f_p1_kinds f_p1_sets f_p1_weights f_p1_stocks f_p1_readers f_p1_eighths f_p1_wishes) := hD
  refine lv_aload_n hx hb dX8_copyFrom_98 rfl (lv_at hl 1 rfl) ?_
  refine va_get (D := (dC, dI)) (ci := 7) (v := .ref q_p1_wishes) (C := RX8) (T := TX8) (N := 9) hx hb hts inX8 hown hK hP 8 rfl rfl 7 (by decide) lk12 (fun _ h9 => h9) rfl dX8_copyFrom_99 ?_
  refine lv_iconst (v := 0) hx hb dX8_copyFrom_102 (by decide) ?_
  refine lv_aload_n hx hb dX8_copyFrom_103 rfl (lv_at hl 0 rfl) ?_
  refine va_get (D := (dC, dI)) (ci := 7) (v := .ref q_this_wishes) (C := RX8) (T := TX8) (N := 9) hx hb hts inX8 hown hK hP 0 rfl rfl 7 (by decide) lk12 (fun _ h9 => h9) rfl dX8_copyFrom_104 ?_
  refine lv_iconst (v := 0) hx hb dX8_copyFrom_107 (by decide) ?_
  refine lv_bipush (v := 6) hx hb dX8_copyFrom_108 (by decide) ?_
  refine va_copyi (ty := .int) (sp := 0) (dp := 0) (n := 6) hx hb (hml.trans hl.1.symm) hown lk2 lk3 lk4 lk5 hK hP hD hS 15 7 0 0 rfl rfl rfl rfl rfl (by decide) (by decide) (by decide) (by decide) (by decide) (fun _ _ => rfl) (Nat.le_of_ble_eq_true rfl) (Nat.le_of_ble_eq_true rfl) dX8_copyFrom_110 (fun H locs hP hD hS => ?_)
  have hP : va_P (dC, dI) vwCl (zW_X8_copyFrom cI cC cS q_this q_this_kinds q_this_sets q_this_weights q_this_stocks q_this_readers q_this_eighths q_this_wishes q_p1 q_p1_kinds q_p1_sets q_p1_weights q_p1_stocks q_p1_readers q_p1_eighths q_p1_wishes v_p1_words v_this_roads (va_cpy f_p1_kinds f_this_kinds (Int32.toNatClampNeg 0) (Int32.toNatClampNeg 0) (Int32.toNatClampNeg 6)) (va_cpy f_p1_sets f_this_sets (Int32.toNatClampNeg 0) (Int32.toNatClampNeg 0) (Int32.toNatClampNeg 6)) (va_cpy f_p1_weights f_this_weights (Int32.toNatClampNeg 0) (Int32.toNatClampNeg 0) (Int32.toNatClampNeg 6)) (va_cpy f_p1_stocks f_this_stocks (Int32.toNatClampNeg 0) (Int32.toNatClampNeg 0) (Int32.toNatClampNeg 6)) (va_cpy f_p1_readers f_this_readers (Int32.toNatClampNeg 0) (Int32.toNatClampNeg 0) (Int32.toNatClampNeg 6)) (va_cpy f_p1_eighths f_this_eighths (Int32.toNatClampNeg 0) (Int32.toNatClampNeg 0) (Int32.toNatClampNeg 6)) (va_cpy f_p1_wishes f_this_wishes (Int32.toNatClampNeg 0) (Int32.toNatClampNeg 0) (Int32.toNatClampNeg 6)) v_p1_words v_p1_roads f_p1_kinds f_p1_sets f_p1_weights f_p1_stocks f_p1_readers f_p1_eighths f_p1_wishes) H := hP
  have hD : va_D A (zW_X8_copyFrom cI cC cS q_this q_this_kinds q_this_sets q_this_weights q_this_stocks q_this_readers q_this_eighths q_this_wishes q_p1 q_p1_kinds q_p1_sets q_p1_weights q_p1_stocks q_p1_readers q_p1_eighths q_p1_wishes v_p1_words v_this_roads (va_cpy f_p1_kinds f_this_kinds (Int32.toNatClampNeg 0) (Int32.toNatClampNeg 0) (Int32.toNatClampNeg 6)) (va_cpy f_p1_sets f_this_sets (Int32.toNatClampNeg 0) (Int32.toNatClampNeg 0) (Int32.toNatClampNeg 6)) (va_cpy f_p1_weights f_this_weights (Int32.toNatClampNeg 0) (Int32.toNatClampNeg 0) (Int32.toNatClampNeg 6)) (va_cpy f_p1_stocks f_this_stocks (Int32.toNatClampNeg 0) (Int32.toNatClampNeg 0) (Int32.toNatClampNeg 6)) (va_cpy f_p1_readers f_this_readers (Int32.toNatClampNeg 0) (Int32.toNatClampNeg 0) (Int32.toNatClampNeg 6)) (va_cpy f_p1_eighths f_this_eighths (Int32.toNatClampNeg 0) (Int32.toNatClampNeg 0) (Int32.toNatClampNeg 6)) (va_cpy f_p1_wishes f_this_wishes (Int32.toNatClampNeg 0) (Int32.toNatClampNeg 0) (Int32.toNatClampNeg 6)) v_p1_words v_p1_roads f_p1_kinds f_p1_sets f_p1_weights f_p1_stocks f_p1_readers f_p1_eighths f_p1_wishes) := hD
  refine lv_aload_n hx hb dX8_copyFrom_113 rfl (lv_at hl 0 rfl) ?_
  refine lv_aload_n hx hb dX8_copyFrom_114 rfl (lv_at hl 1 rfl) ?_
  refine va_get (D := (dC, dI)) (ci := 7) (v := .int v_p1_roads) (C := RX8) (T := TX8) (N := 9) hx hb hts inX8 hown hK hP 8 rfl rfl 8 (by decide) lk13 (fun _ h9 => h9) rfl dX8_copyFrom_115 ?_
  refine va_put (D := (dC, dI)) (ci := 7) (v := .int v_p1_roads) (ty := .int) (C := RX8) (T := TX8) (N := 9) hx hb hts inX8 tyX8 tyX8_ok nmX8 hown hK hP hD hS 0 rfl rfl 8 (by decide) lk13 (fun _ h9 => h9) rfl (by decide +kernel) rfl rfl (Nat.le_of_ble_eq_true rfl) dX8_copyFrom_118 (fun H locs hP hD hS => ?_)
  have hP : va_P (dC, dI) vwCl (zW_X8_copyFrom cI cC cS q_this q_this_kinds q_this_sets q_this_weights q_this_stocks q_this_readers q_this_eighths q_this_wishes q_p1 q_p1_kinds q_p1_sets q_p1_weights q_p1_stocks q_p1_readers q_p1_eighths q_p1_wishes v_p1_words v_p1_roads (va_cpy f_p1_kinds f_this_kinds (Int32.toNatClampNeg 0) (Int32.toNatClampNeg 0) (Int32.toNatClampNeg 6)) (va_cpy f_p1_sets f_this_sets (Int32.toNatClampNeg 0) (Int32.toNatClampNeg 0) (Int32.toNatClampNeg 6)) (va_cpy f_p1_weights f_this_weights (Int32.toNatClampNeg 0) (Int32.toNatClampNeg 0) (Int32.toNatClampNeg 6)) (va_cpy f_p1_stocks f_this_stocks (Int32.toNatClampNeg 0) (Int32.toNatClampNeg 0) (Int32.toNatClampNeg 6)) (va_cpy f_p1_readers f_this_readers (Int32.toNatClampNeg 0) (Int32.toNatClampNeg 0) (Int32.toNatClampNeg 6)) (va_cpy f_p1_eighths f_this_eighths (Int32.toNatClampNeg 0) (Int32.toNatClampNeg 0) (Int32.toNatClampNeg 6)) (va_cpy f_p1_wishes f_this_wishes (Int32.toNatClampNeg 0) (Int32.toNatClampNeg 0) (Int32.toNatClampNeg 6)) v_p1_words v_p1_roads f_p1_kinds f_p1_sets f_p1_weights f_p1_stocks f_p1_readers f_p1_eighths f_p1_wishes) H := hP
  have hD : va_D A (zW_X8_copyFrom cI cC cS q_this q_this_kinds q_this_sets q_this_weights q_this_stocks q_this_readers q_this_eighths q_this_wishes q_p1 q_p1_kinds q_p1_sets q_p1_weights q_p1_stocks q_p1_readers q_p1_eighths q_p1_wishes v_p1_words v_p1_roads (va_cpy f_p1_kinds f_this_kinds (Int32.toNatClampNeg 0) (Int32.toNatClampNeg 0) (Int32.toNatClampNeg 6)) (va_cpy f_p1_sets f_this_sets (Int32.toNatClampNeg 0) (Int32.toNatClampNeg 0) (Int32.toNatClampNeg 6)) (va_cpy f_p1_weights f_this_weights (Int32.toNatClampNeg 0) (Int32.toNatClampNeg 0) (Int32.toNatClampNeg 6)) (va_cpy f_p1_stocks f_this_stocks (Int32.toNatClampNeg 0) (Int32.toNatClampNeg 0) (Int32.toNatClampNeg 6)) (va_cpy f_p1_readers f_this_readers (Int32.toNatClampNeg 0) (Int32.toNatClampNeg 0) (Int32.toNatClampNeg 6)) (va_cpy f_p1_eighths f_this_eighths (Int32.toNatClampNeg 0) (Int32.toNatClampNeg 0) (Int32.toNatClampNeg 6)) (va_cpy f_p1_wishes f_this_wishes (Int32.toNatClampNeg 0) (Int32.toNatClampNeg 0) (Int32.toNatClampNeg 6)) v_p1_words v_p1_roads f_p1_kinds f_p1_sets f_p1_weights f_p1_stocks f_p1_readers f_p1_eighths f_p1_wishes) := hD
  exact z_vret hx hb hr hlocks (v_p1_words, v_p1_roads, (va_cpy f_p1_kinds f_this_kinds (Int32.toNatClampNeg 0) (Int32.toNatClampNeg 0) (Int32.toNatClampNeg 6)), (va_cpy f_p1_sets f_this_sets (Int32.toNatClampNeg 0) (Int32.toNatClampNeg 0) (Int32.toNatClampNeg 6)), (va_cpy f_p1_weights f_this_weights (Int32.toNatClampNeg 0) (Int32.toNatClampNeg 0) (Int32.toNatClampNeg 6)), (va_cpy f_p1_stocks f_this_stocks (Int32.toNatClampNeg 0) (Int32.toNatClampNeg 0) (Int32.toNatClampNeg 6)), (va_cpy f_p1_readers f_this_readers (Int32.toNatClampNeg 0) (Int32.toNatClampNeg 0) (Int32.toNatClampNeg 6)), (va_cpy f_p1_eighths f_this_eighths (Int32.toNatClampNeg 0) (Int32.toNatClampNeg 0) (Int32.toNatClampNeg 6)), (va_cpy f_p1_wishes f_this_wishes (Int32.toNatClampNeg 0) (Int32.toNatClampNeg 0) (Int32.toNatClampNeg 6))) hf hK hP hD hS dX8_copyFrom_121
def wp_X8_hasWord (N : Nat) (x1 : Int32) (v_this_words : Int32) (Φ : Int32 → Prop) : Prop := 
    ((x1 < 0 → Φ 0) ∧
     (¬ (x1 < 0) → ((v_this_words ≤ x1 → Φ 0) ∧
     (¬ (v_this_words ≤ x1) → Φ 1))))
abbrev zW_X8_hasWord (cI cC cS : ClassId) (q_this : Nat) (q_this_kinds : Nat) (q_this_sets : Nat) (q_this_weights : Nat) (q_this_stocks : Nat) (q_this_readers : Nat) (q_this_eighths : Nat) (q_this_wishes : Nat) (v_this_words : Int32) (v_this_roads : Int32) : va_W := [(q_this, .inr (7, [.ref q_this_kinds, .ref q_this_sets, .ref q_this_weights, .ref q_this_stocks, .int v_this_words, .ref q_this_readers, .ref q_this_eighths, .ref q_this_wishes, .int v_this_roads]))]
abbrev zr_X8_hasWord : Room := { frames := 0, cells := 0, slots := 0, locals := 0 }
set_option maxHeartbeats 4000000 in
set_option maxRecDepth 100000 in
theorem c_X8_hasWord (l : Launch) (dC : Nat → ClassId) (dI : Nat → Nat → Nat) (cI cC cS : ClassId) (q_this : Nat) (q_this_kinds : Nat) (q_this_sets : Nat) (q_this_weights : Nat) (q_this_stocks : Nat) (q_this_readers : Nat) (q_this_eighths : Nat) (q_this_wishes : Nat) (sz : Nat) (v_this_words : Int32) (v_this_roads : Int32) (x1 : Int32) (N : Nat) (Φ : Int32 → Prop)  (hf : wp_X8_hasWord N x1 v_this_words Φ) : Met l yX8_hasWord wsX8_hasWord zr_X8_hasWord (zPc (dC, dI) (zT cI cC cS) [.ref q_this, .int x1] sz (zW_X8_hasWord cI cC cS q_this q_this_kinds q_this_sets q_this_weights q_this_stocks q_this_readers q_this_eighths q_this_wishes v_this_words v_this_roads)) (zQi (dC, dI) (zT cI cC cS) (va_A (zW_X8_hasWord cI cC cS q_this q_this_kinds q_this_sets q_this_weights q_this_stocks q_this_readers q_this_eighths q_this_wishes v_this_words v_this_roads) sz) (fun (r : Int32) (u : Unit) => Φ r) (fun u => (zW_X8_hasWord cI cC cS q_this q_this_kinds q_this_sets q_this_weights q_this_stocks q_this_readers q_this_eighths q_this_wishes v_this_words v_this_roads))) 0 0 (va_A (zW_X8_hasWord cI cC cS q_this q_this_kinds q_this_sets q_this_weights q_this_stocks q_this_readers q_this_eighths q_this_wishes v_this_words v_this_roads) sz) := by
  refine Met.ofW (cc := cX8_hasWord) (maxL := 2) (ret := (some .boolean)) (by decide) rfl ?_
  intro p e s m args below meth c s₁ B hml hv
  obtain ⟨rfl, hsz, hP, hK, hD0⟩ := hv
  have hx := B.exec
  have hb := B.bytes
  have hr := B.returns
  have hts := atoms_spec (ws := wsX8_hasWord) B.pre
  have hown : s.vm.findClass RX8 = some m.cls := findClass_of_methodNamed B.named
  have hlocks := B.notSynchronized
  subst hsz
  have hD := hD0.self (sz := s.heap.size)
  have hA : ∀ q : Nat, s.heap.size ≤ q → va_A (zW_X8_hasWord cI cC cS q_this q_this_kinds q_this_sets q_this_weights q_this_stocks q_this_readers q_this_eighths q_this_wishes v_this_words v_this_roads) s.heap.size q := fun q h => Or.inr h
  generalize va_A (zW_X8_hasWord cI cC cS q_this q_this_kinds q_this_sets q_this_weights q_this_stocks q_this_readers q_this_eighths q_this_wishes v_this_words v_this_roads) s.heap.size = A at hD hA ⊢
  have hS : va_S A s.heap s.heap [] := va_S.rf
  have hl := lv_entry ([.ref q_this, .int x1]) (n := 2) (Nat.le_of_ble_eq_true rfl)
  rw [lg_entry_eq]
  generalize (lg_sl ([.ref q_this, .int x1]) ++ List.replicate (2 - (lg_sl ([.ref q_this, .int x1])).length) Slot.unset).toArray = ls at hl ⊢
  have hl : lv_has ls 2 [(0, .ref q_this), (1, .int x1)] := hl
  have lk1 := hts (.fieldLink RX8 24 "ReadFromAnywhere$Tongue" "words" "I") (List.mem_of_getElem? (i := 1) rfl)
  have inX8 : ∀ w ∈ u_ws RX8 TX8 9, w ∈ wsX8_hasWord := fun _ h => List.mem_cons_of_mem _ (List.mem_append_right _ h)
  unfold wp_X8_hasWord at hf
  refine lv_iload_n hx hb dX8_hasWord_0 rfl (lv_at hl 1 rfl) ?_
  refine lv_if_lt (tgt := 16) hx hb dX8_hasWord_1 (by decide) (fun c1 => ?_) (fun c1 => ?_)
  · replace hf := hf.1 c1
    refine lv_iconst (v := 0) hx hb dX8_hasWord_16 (by decide) ?_
    exact z_zret hx hb hr rfl hlocks () hf hK hP hD hS dX8_hasWord_17
  · replace hf := hf.2 c1
    refine lv_iload_n hx hb dX8_hasWord_4 rfl (lv_at hl 1 rfl) ?_
    refine lv_aload_n hx hb dX8_hasWord_5 rfl (lv_at hl 0 rfl) ?_
    refine va_get (D := (dC, dI)) (ci := 7) (v := .int v_this_words) (C := RX8) (T := TX8) (N := 9) hx hb hts inX8 hown hK hP 0 rfl rfl 4 (by decide) lk1 (fun _ h9 => h9) rfl dX8_hasWord_6 ?_
    refine lv_icmp_ge (tgt := 16) hx hb dX8_hasWord_9 (by decide) (fun c2 => ?_) (fun c2 => ?_)
    · replace hf := hf.1 c2
      refine lv_iconst (v := 0) hx hb dX8_hasWord_16 (by decide) ?_
      exact z_zret hx hb hr rfl hlocks () hf hK hP hD hS dX8_hasWord_17
    · replace hf := hf.2 c2
      refine lv_iconst (v := 1) hx hb dX8_hasWord_12 (by decide) ?_
      refine lv_goto (tgt := 17) hx hb dX8_hasWord_13 (by decide) ?_
      exact z_zret hx hb hr rfl hlocks () hf hK hP hD hS dX8_hasWord_17
def wp_X8_hasRoad (N : Nat) (x1 : Int32) (v_this_roads : Int32) (Φ : Int32 → Prop) : Prop := 
    ((x1 < 0 → Φ 0) ∧
     (¬ (x1 < 0) → ((v_this_roads ≤ x1 → Φ 0) ∧
     (¬ (v_this_roads ≤ x1) → Φ 1))))
abbrev zW_X8_hasRoad (cI cC cS : ClassId) (q_this : Nat) (q_this_kinds : Nat) (q_this_sets : Nat) (q_this_weights : Nat) (q_this_stocks : Nat) (q_this_readers : Nat) (q_this_eighths : Nat) (q_this_wishes : Nat) (v_this_words : Int32) (v_this_roads : Int32) : va_W := [(q_this, .inr (7, [.ref q_this_kinds, .ref q_this_sets, .ref q_this_weights, .ref q_this_stocks, .int v_this_words, .ref q_this_readers, .ref q_this_eighths, .ref q_this_wishes, .int v_this_roads]))]
abbrev zr_X8_hasRoad : Room := { frames := 0, cells := 0, slots := 0, locals := 0 }
set_option maxHeartbeats 4000000 in
set_option maxRecDepth 100000 in
theorem c_X8_hasRoad (l : Launch) (dC : Nat → ClassId) (dI : Nat → Nat → Nat) (cI cC cS : ClassId) (q_this : Nat) (q_this_kinds : Nat) (q_this_sets : Nat) (q_this_weights : Nat) (q_this_stocks : Nat) (q_this_readers : Nat) (q_this_eighths : Nat) (q_this_wishes : Nat) (sz : Nat) (v_this_words : Int32) (v_this_roads : Int32) (x1 : Int32) (N : Nat) (Φ : Int32 → Prop)  (hf : wp_X8_hasRoad N x1 v_this_roads Φ) : Met l yX8_hasRoad wsX8_hasRoad zr_X8_hasRoad (zPc (dC, dI) (zT cI cC cS) [.ref q_this, .int x1] sz (zW_X8_hasRoad cI cC cS q_this q_this_kinds q_this_sets q_this_weights q_this_stocks q_this_readers q_this_eighths q_this_wishes v_this_words v_this_roads)) (zQi (dC, dI) (zT cI cC cS) (va_A (zW_X8_hasRoad cI cC cS q_this q_this_kinds q_this_sets q_this_weights q_this_stocks q_this_readers q_this_eighths q_this_wishes v_this_words v_this_roads) sz) (fun (r : Int32) (u : Unit) => Φ r) (fun u => (zW_X8_hasRoad cI cC cS q_this q_this_kinds q_this_sets q_this_weights q_this_stocks q_this_readers q_this_eighths q_this_wishes v_this_words v_this_roads))) 0 0 (va_A (zW_X8_hasRoad cI cC cS q_this q_this_kinds q_this_sets q_this_weights q_this_stocks q_this_readers q_this_eighths q_this_wishes v_this_words v_this_roads) sz) := by
  refine Met.ofW (cc := cX8_hasRoad) (maxL := 2) (ret := (some .boolean)) (by decide) rfl ?_
  intro p e s m args below meth c s₁ B hml hv
  obtain ⟨rfl, hsz, hP, hK, hD0⟩ := hv
  have hx := B.exec
  have hb := B.bytes
  have hr := B.returns
  have hts := atoms_spec (ws := wsX8_hasRoad) B.pre
  have hown : s.vm.findClass RX8 = some m.cls := findClass_of_methodNamed B.named
  have hlocks := B.notSynchronized
  subst hsz
  have hD := hD0.self (sz := s.heap.size)
  have hA : ∀ q : Nat, s.heap.size ≤ q → va_A (zW_X8_hasRoad cI cC cS q_this q_this_kinds q_this_sets q_this_weights q_this_stocks q_this_readers q_this_eighths q_this_wishes v_this_words v_this_roads) s.heap.size q := fun q h => Or.inr h
  generalize va_A (zW_X8_hasRoad cI cC cS q_this q_this_kinds q_this_sets q_this_weights q_this_stocks q_this_readers q_this_eighths q_this_wishes v_this_words v_this_roads) s.heap.size = A at hD hA ⊢
  have hS : va_S A s.heap s.heap [] := va_S.rf
  have hl := lv_entry ([.ref q_this, .int x1]) (n := 2) (Nat.le_of_ble_eq_true rfl)
  rw [lg_entry_eq]
  generalize (lg_sl ([.ref q_this, .int x1]) ++ List.replicate (2 - (lg_sl ([.ref q_this, .int x1])).length) Slot.unset).toArray = ls at hl ⊢
  have hl : lv_has ls 2 [(0, .ref q_this), (1, .int x1)] := hl
  have lk1 := hts (.fieldLink RX8 37 "ReadFromAnywhere$Tongue" "roads" "I") (List.mem_of_getElem? (i := 1) rfl)
  have inX8 : ∀ w ∈ u_ws RX8 TX8 9, w ∈ wsX8_hasRoad := fun _ h => List.mem_cons_of_mem _ (List.mem_append_right _ h)
  unfold wp_X8_hasRoad at hf
  refine lv_iload_n hx hb dX8_hasRoad_0 rfl (lv_at hl 1 rfl) ?_
  refine lv_if_lt (tgt := 16) hx hb dX8_hasRoad_1 (by decide) (fun c1 => ?_) (fun c1 => ?_)
  · replace hf := hf.1 c1
    refine lv_iconst (v := 0) hx hb dX8_hasRoad_16 (by decide) ?_
    exact z_zret hx hb hr rfl hlocks () hf hK hP hD hS dX8_hasRoad_17
  · replace hf := hf.2 c1
    refine lv_iload_n hx hb dX8_hasRoad_4 rfl (lv_at hl 1 rfl) ?_
    refine lv_aload_n hx hb dX8_hasRoad_5 rfl (lv_at hl 0 rfl) ?_
    refine va_get (D := (dC, dI)) (ci := 7) (v := .int v_this_roads) (C := RX8) (T := TX8) (N := 9) hx hb hts inX8 hown hK hP 0 rfl rfl 8 (by decide) lk1 (fun _ h9 => h9) rfl dX8_hasRoad_6 ?_
    refine lv_icmp_ge (tgt := 16) hx hb dX8_hasRoad_9 (by decide) (fun c2 => ?_) (fun c2 => ?_)
    · replace hf := hf.1 c2
      refine lv_iconst (v := 0) hx hb dX8_hasRoad_16 (by decide) ?_
      exact z_zret hx hb hr rfl hlocks () hf hK hP hD hS dX8_hasRoad_17
    · replace hf := hf.2 c2
      refine lv_iconst (v := 1) hx hb dX8_hasRoad_12 (by decide) ?_
      refine lv_goto (tgt := 17) hx hb dX8_hasRoad_13 (by decide) ?_
      exact z_zret hx hb hr rfl hlocks () hf hK hP hD hS dX8_hasRoad_17
def wp_X8_addWord (N : Nat) (x1 : Int32) (x2 : Int32) (x3 : Int32) (v_this_words : Int32) (f_this_kinds : Nat → Int32) (f_this_sets : Nat → Int32) (f_this_weights : Nat → Int32) (f_this_stocks : Nat → Int32) (Φ : Int32 → Int32 → (Nat → Int32) → (Nat → Int32) → (Nat → Int32) → (Nat → Int32) → Prop) : Prop := 
    ((6 ≤ v_this_words → Φ 0 v_this_words f_this_kinds f_this_sets f_this_weights f_this_stocks) ∧
     (¬ (6 ≤ v_this_words) → ((x1 = 0 → ((x2 < 16 → (vp_in v_this_words 6 ∧ ((x1 = 0 → (vp_in v_this_words 6 ∧ (vp_in v_this_words 6 ∧ (vp_in v_this_words 6 ∧ Φ 1 (v_this_words + 1) (upd f_this_kinds (Int32.toNatClampNeg v_this_words) x1) (upd f_this_sets (Int32.toNatClampNeg v_this_words) x2) (upd f_this_weights (Int32.toNatClampNeg v_this_words) x3) (upd f_this_stocks (Int32.toNatClampNeg v_this_words) 0))))) ∧
     (¬ (x1 = 0) → (vp_in v_this_words 6 ∧ (vp_in v_this_words 6 ∧ (vp_in v_this_words 6 ∧ Φ 1 (v_this_words + 1) (upd f_this_kinds (Int32.toNatClampNeg v_this_words) x1) (upd f_this_sets (Int32.toNatClampNeg v_this_words) 16) (upd f_this_weights (Int32.toNatClampNeg v_this_words) x3) (upd f_this_stocks (Int32.toNatClampNeg v_this_words) 0)))))))) ∧
     (¬ (x2 < 16) → Φ 0 v_this_words f_this_kinds f_this_sets f_this_weights f_this_stocks))) ∧
     (¬ (x1 = 0) → (vp_in v_this_words 6 ∧ ((x1 = 0 → (vp_in v_this_words 6 ∧ (vp_in v_this_words 6 ∧ (vp_in v_this_words 6 ∧ Φ 1 (v_this_words + 1) (upd f_this_kinds (Int32.toNatClampNeg v_this_words) x1) (upd f_this_sets (Int32.toNatClampNeg v_this_words) x2) (upd f_this_weights (Int32.toNatClampNeg v_this_words) x3) (upd f_this_stocks (Int32.toNatClampNeg v_this_words) 0))))) ∧
     (¬ (x1 = 0) → (vp_in v_this_words 6 ∧ (vp_in v_this_words 6 ∧ (vp_in v_this_words 6 ∧ Φ 1 (v_this_words + 1) (upd f_this_kinds (Int32.toNatClampNeg v_this_words) x1) (upd f_this_sets (Int32.toNatClampNeg v_this_words) 16) (upd f_this_weights (Int32.toNatClampNeg v_this_words) x3) (upd f_this_stocks (Int32.toNatClampNeg v_this_words) 0)))))))))))
abbrev zW_X8_addWord (cI cC cS : ClassId) (q_this : Nat) (q_this_kinds : Nat) (q_this_sets : Nat) (q_this_weights : Nat) (q_this_stocks : Nat) (q_this_readers : Nat) (q_this_eighths : Nat) (q_this_wishes : Nat) (v_this_words : Int32) (v_this_roads : Int32) (f_this_kinds : Nat → Int32) (f_this_sets : Nat → Int32) (f_this_weights : Nat → Int32) (f_this_stocks : Nat → Int32) : va_W := [(q_this, .inr (7, [.ref q_this_kinds, .ref q_this_sets, .ref q_this_weights, .ref q_this_stocks, .int v_this_words, .ref q_this_readers, .ref q_this_eighths, .ref q_this_wishes, .int v_this_roads])),
  (q_this_kinds, .inl (cI, 6, .inl f_this_kinds)),
  (q_this_sets, .inl (cI, 6, .inl f_this_sets)),
  (q_this_weights, .inl (cI, 6, .inl f_this_weights)),
  (q_this_stocks, .inl (cI, 6, .inl f_this_stocks))]
abbrev zr_X8_addWord : Room := { frames := 0, cells := 0, slots := 0, locals := 0 }
set_option maxHeartbeats 4000000 in
set_option maxRecDepth 100000 in
theorem c_X8_addWord (l : Launch) (dC : Nat → ClassId) (dI : Nat → Nat → Nat) (cI cC cS : ClassId) (q_this : Nat) (q_this_kinds : Nat) (q_this_sets : Nat) (q_this_weights : Nat) (q_this_stocks : Nat) (q_this_readers : Nat) (q_this_eighths : Nat) (q_this_wishes : Nat) (sz : Nat) (v_this_words : Int32) (v_this_roads : Int32) (f_this_kinds : Nat → Int32) (f_this_sets : Nat → Int32) (f_this_weights : Nat → Int32) (f_this_stocks : Nat → Int32) (x1 : Int32) (x2 : Int32) (x3 : Int32) (N : Nat) (Φ : Int32 → Int32 → (Nat → Int32) → (Nat → Int32) → (Nat → Int32) → (Nat → Int32) → Prop)  (hf : wp_X8_addWord N x1 x2 x3 v_this_words f_this_kinds f_this_sets f_this_weights f_this_stocks Φ) : Met l yX8_addWord wsX8_addWord zr_X8_addWord (zPc (dC, dI) (zT cI cC cS) [.ref q_this, .int x1, .int x2, .int x3] sz (zW_X8_addWord cI cC cS q_this q_this_kinds q_this_sets q_this_weights q_this_stocks q_this_readers q_this_eighths q_this_wishes v_this_words v_this_roads f_this_kinds f_this_sets f_this_weights f_this_stocks)) (zQi (dC, dI) (zT cI cC cS) (va_A (zW_X8_addWord cI cC cS q_this q_this_kinds q_this_sets q_this_weights q_this_stocks q_this_readers q_this_eighths q_this_wishes v_this_words v_this_roads f_this_kinds f_this_sets f_this_weights f_this_stocks) sz) (fun (r : Int32) (u : (Int32) × (Nat → Int32) × (Nat → Int32) × (Nat → Int32) × (Nat → Int32)) => Φ r u.1 u.2.1 u.2.2.1 u.2.2.2.1 u.2.2.2.2) (fun u => (zW_X8_addWord cI cC cS q_this q_this_kinds q_this_sets q_this_weights q_this_stocks q_this_readers q_this_eighths q_this_wishes u.1 v_this_roads u.2.1 u.2.2.1 u.2.2.2.1 u.2.2.2.2))) 0 0 (va_A (zW_X8_addWord cI cC cS q_this q_this_kinds q_this_sets q_this_weights q_this_stocks q_this_readers q_this_eighths q_this_wishes v_this_words v_this_roads f_this_kinds f_this_sets f_this_weights f_this_stocks) sz) := by
  refine Met.ofW (cc := cX8_addWord) (maxL := 4) (ret := (some .boolean)) (by decide) rfl ?_
  intro p e s m args below meth c s₁ B hml hv
  obtain ⟨rfl, hsz, hP, hK, hD0⟩ := hv
  have hx := B.exec
  have hb := B.bytes
  have hr := B.returns
  have hts := atoms_spec (ws := wsX8_addWord) B.pre
  have hown : s.vm.findClass RX8 = some m.cls := findClass_of_methodNamed B.named
  have hlocks := B.notSynchronized
  subst hsz
  have hD := hD0.self (sz := s.heap.size)
  have hA : ∀ q : Nat, s.heap.size ≤ q → va_A (zW_X8_addWord cI cC cS q_this q_this_kinds q_this_sets q_this_weights q_this_stocks q_this_readers q_this_eighths q_this_wishes v_this_words v_this_roads f_this_kinds f_this_sets f_this_weights f_this_stocks) s.heap.size q := fun q h => Or.inr h
  generalize va_A (zW_X8_addWord cI cC cS q_this q_this_kinds q_this_sets q_this_weights q_this_stocks q_this_readers q_this_eighths q_this_wishes v_this_words v_this_roads f_this_kinds f_this_sets f_this_weights f_this_stocks) s.heap.size = A at hD hA ⊢
  have hS : va_S A s.heap s.heap [] := va_S.rf
  have hl := lv_entry ([.ref q_this, .int x1, .int x2, .int x3]) (n := 4) (Nat.le_of_ble_eq_true rfl)
  rw [lg_entry_eq]
  generalize (lg_sl ([.ref q_this, .int x1, .int x2, .int x3]) ++ List.replicate (4 - (lg_sl ([.ref q_this, .int x1, .int x2, .int x3])).length) Slot.unset).toArray = ls at hl ⊢
  have hl : lv_has ls 4 [(0, .ref q_this), (1, .int x1), (2, .int x2), (3, .int x3)] := hl
  have lk1 := hts (.fieldLink RX8 24 "ReadFromAnywhere$Tongue" "words" "I") (List.mem_of_getElem? (i := 1) rfl)
  have inX8 : ∀ w ∈ u_ws RX8 TX8 9, w ∈ wsX8_addWord := fun _ h => List.mem_cons_of_mem _ (List.mem_append_right _ h)
  have lk2 := hts (.fieldLink RX8 9 "ReadFromAnywhere$Tongue" "kinds" "[I") (List.mem_of_getElem? (i := 2) rfl)
  have lk3 := hts (.fieldLink RX8 15 "ReadFromAnywhere$Tongue" "sets" "[I") (List.mem_of_getElem? (i := 3) rfl)
  have lk4 := hts (.fieldLink RX8 18 "ReadFromAnywhere$Tongue" "weights" "[I") (List.mem_of_getElem? (i := 4) rfl)
  have lk5 := hts (.fieldLink RX8 21 "ReadFromAnywhere$Tongue" "stocks" "[I") (List.mem_of_getElem? (i := 5) rfl)
  unfold wp_X8_addWord at hf
  refine lv_aload_n hx hb dX8_addWord_0 rfl (lv_at hl 0 rfl) ?_
  refine va_get (D := (dC, dI)) (ci := 7) (v := .int v_this_words) (C := RX8) (T := TX8) (N := 9) hx hb hts inX8 hown hK hP 0 rfl rfl 4 (by decide) lk1 (fun _ h9 => h9) rfl dX8_addWord_1 ?_
  refine lv_bipush (v := 6) hx hb dX8_addWord_4 (by decide) ?_
  refine lv_icmp_ge (tgt := 19) hx hb dX8_addWord_6 (by decide) (fun c1 => ?_) (fun c1 => ?_)
  · replace hf := hf.1 c1
    refine lv_iconst (v := 0) hx hb dX8_addWord_19 (by decide) ?_
    exact z_zret hx hb hr rfl hlocks (v_this_words, f_this_kinds, f_this_sets, f_this_weights, f_this_stocks) hf hK hP hD hS dX8_addWord_20
  · replace hf := hf.2 c1
    refine lv_iload_n hx hb dX8_addWord_9 rfl (lv_at hl 1 rfl) ?_
    refine lv_if_ne (tgt := 21) hx hb dX8_addWord_10 (by decide) (fun c2 => ?_) (fun c2 => ?_)
    · replace hf := hf.2 c2
      refine lv_aload_n hx hb dX8_addWord_21 rfl (lv_at hl 0 rfl) ?_
      refine va_get (D := (dC, dI)) (ci := 7) (v := .ref q_this_kinds) (C := RX8) (T := TX8) (N := 9) hx hb hts inX8 hown hK hP 0 rfl rfl 0 (by decide) lk2 (fun _ h9 => h9) rfl dX8_addWord_22 ?_
      refine lv_aload_n hx hb dX8_addWord_25 rfl (lv_at hl 0 rfl) ?_
      refine va_get (D := (dC, dI)) (ci := 7) (v := .int v_this_words) (C := RX8) (T := TX8) (N := 9) hx hb hts inX8 hown hK hP 0 rfl rfl 4 (by decide) lk1 (fun _ h9 => h9) rfl dX8_addWord_26 ?_
      refine lv_iload_n hx hb dX8_addWord_29 rfl (lv_at hl 1 rfl) ?_
      refine va_iast hx hb hK hP hD hS 1 0 rfl rfl hf.1 dX8_addWord_30 (fun H locs hP hD hS => ?_)
      replace hf := hf.2
      have hP : va_P (dC, dI) vwCl (zW_X8_addWord cI cC cS q_this q_this_kinds q_this_sets q_this_weights q_this_stocks q_this_readers q_this_eighths q_this_wishes v_this_words v_this_roads (upd f_this_kinds (Int32.toNatClampNeg v_this_words) x1) f_this_sets f_this_weights f_this_stocks) H := hP
      have hD : va_D A (zW_X8_addWord cI cC cS q_this q_this_kinds q_this_sets q_this_weights q_this_stocks q_this_readers q_this_eighths q_this_wishes v_this_words v_this_roads (upd f_this_kinds (Int32.toNatClampNeg v_this_words) x1) f_this_sets f_this_weights f_this_stocks) := hD
      refine lv_aload_n hx hb dX8_addWord_31 rfl (lv_at hl 0 rfl) ?_
      refine va_get (D := (dC, dI)) (ci := 7) (v := .ref q_this_sets) (C := RX8) (T := TX8) (N := 9) hx hb hts inX8 hown hK hP 0 rfl rfl 1 (by decide) lk3 (fun _ h9 => h9) rfl dX8_addWord_32 ?_
      refine lv_aload_n hx hb dX8_addWord_35 rfl (lv_at hl 0 rfl) ?_
      refine va_get (D := (dC, dI)) (ci := 7) (v := .int v_this_words) (C := RX8) (T := TX8) (N := 9) hx hb hts inX8 hown hK hP 0 rfl rfl 4 (by decide) lk1 (fun _ h9 => h9) rfl dX8_addWord_36 ?_
      refine lv_iload_n hx hb dX8_addWord_39 rfl (lv_at hl 1 rfl) ?_
      refine lv_if_ne (tgt := 47) hx hb dX8_addWord_40 (by decide) (fun c3 => ?_) (fun c3 => ?_)
      · replace hf := hf.2 c3
        refine lv_bipush (v := 16) hx hb dX8_addWord_47 (by decide) ?_
        refine va_iast hx hb hK hP hD hS 2 0 rfl rfl hf.1 dX8_addWord_49 (fun H locs hP hD hS => ?_)
        replace hf := hf.2
        have hP : va_P (dC, dI) vwCl (zW_X8_addWord cI cC cS q_this q_this_kinds q_this_sets q_this_weights q_this_stocks q_this_readers q_this_eighths q_this_wishes v_this_words v_this_roads (upd f_this_kinds (Int32.toNatClampNeg v_this_words) x1) (upd f_this_sets (Int32.toNatClampNeg v_this_words) 16) f_this_weights f_this_stocks) H := hP
        have hD : va_D A (zW_X8_addWord cI cC cS q_this q_this_kinds q_this_sets q_this_weights q_this_stocks q_this_readers q_this_eighths q_this_wishes v_this_words v_this_roads (upd f_this_kinds (Int32.toNatClampNeg v_this_words) x1) (upd f_this_sets (Int32.toNatClampNeg v_this_words) 16) f_this_weights f_this_stocks) := hD
        refine lv_aload_n hx hb dX8_addWord_50 rfl (lv_at hl 0 rfl) ?_
        refine va_get (D := (dC, dI)) (ci := 7) (v := .ref q_this_weights) (C := RX8) (T := TX8) (N := 9) hx hb hts inX8 hown hK hP 0 rfl rfl 2 (by decide) lk4 (fun _ h9 => h9) rfl dX8_addWord_51 ?_
        refine lv_aload_n hx hb dX8_addWord_54 rfl (lv_at hl 0 rfl) ?_
        refine va_get (D := (dC, dI)) (ci := 7) (v := .int v_this_words) (C := RX8) (T := TX8) (N := 9) hx hb hts inX8 hown hK hP 0 rfl rfl 4 (by decide) lk1 (fun _ h9 => h9) rfl dX8_addWord_55 ?_
        refine lv_iload_n hx hb dX8_addWord_58 rfl (lv_at hl 3 rfl) ?_
        refine va_iast hx hb hK hP hD hS 3 0 rfl rfl hf.1 dX8_addWord_59 (fun H locs hP hD hS => ?_)
        replace hf := hf.2
        have hP : va_P (dC, dI) vwCl (zW_X8_addWord cI cC cS q_this q_this_kinds q_this_sets q_this_weights q_this_stocks q_this_readers q_this_eighths q_this_wishes v_this_words v_this_roads (upd f_this_kinds (Int32.toNatClampNeg v_this_words) x1) (upd f_this_sets (Int32.toNatClampNeg v_this_words) 16) (upd f_this_weights (Int32.toNatClampNeg v_this_words) x3) f_this_stocks) H := hP
        have hD : va_D A (zW_X8_addWord cI cC cS q_this q_this_kinds q_this_sets q_this_weights q_this_stocks q_this_readers q_this_eighths q_this_wishes v_this_words v_this_roads (upd f_this_kinds (Int32.toNatClampNeg v_this_words) x1) (upd f_this_sets (Int32.toNatClampNeg v_this_words) 16) (upd f_this_weights (Int32.toNatClampNeg v_this_words) x3) f_this_stocks) := hD
        refine lv_aload_n hx hb dX8_addWord_60 rfl (lv_at hl 0 rfl) ?_
        refine va_get (D := (dC, dI)) (ci := 7) (v := .ref q_this_stocks) (C := RX8) (T := TX8) (N := 9) hx hb hts inX8 hown hK hP 0 rfl rfl 3 (by decide) lk5 (fun _ h9 => h9) rfl dX8_addWord_61 ?_
        refine lv_aload_n hx hb dX8_addWord_64 rfl (lv_at hl 0 rfl) ?_
        refine va_get (D := (dC, dI)) (ci := 7) (v := .int v_this_words) (C := RX8) (T := TX8) (N := 9) hx hb hts inX8 hown hK hP 0 rfl rfl 4 (by decide) lk1 (fun _ h9 => h9) rfl dX8_addWord_65 ?_
        refine lv_iconst (v := 0) hx hb dX8_addWord_68 (by decide) ?_
        refine va_iast hx hb hK hP hD hS 4 0 rfl rfl hf.1 dX8_addWord_69 (fun H locs hP hD hS => ?_)
        replace hf := hf.2
        have hP : va_P (dC, dI) vwCl (zW_X8_addWord cI cC cS q_this q_this_kinds q_this_sets q_this_weights q_this_stocks q_this_readers q_this_eighths q_this_wishes v_this_words v_this_roads (upd f_this_kinds (Int32.toNatClampNeg v_this_words) x1) (upd f_this_sets (Int32.toNatClampNeg v_this_words) 16) (upd f_this_weights (Int32.toNatClampNeg v_this_words) x3) (upd f_this_stocks (Int32.toNatClampNeg v_this_words) 0)) H := hP
        have hD : va_D A (zW_X8_addWord cI cC cS q_this q_this_kinds q_this_sets q_this_weights q_this_stocks q_this_readers q_this_eighths q_this_wishes v_this_words v_this_roads (upd f_this_kinds (Int32.toNatClampNeg v_this_words) x1) (upd f_this_sets (Int32.toNatClampNeg v_this_words) 16) (upd f_this_weights (Int32.toNatClampNeg v_this_words) x3) (upd f_this_stocks (Int32.toNatClampNeg v_this_words) 0)) := hD
        refine lv_aload_n hx hb dX8_addWord_70 rfl (lv_at hl 0 rfl) ?_
        refine lv_dup hx hb dX8_addWord_71 rfl ?_
        refine va_get (D := (dC, dI)) (ci := 7) (v := .int v_this_words) (C := RX8) (T := TX8) (N := 9) hx hb hts inX8 hown hK hP 0 rfl rfl 4 (by decide) lk1 (fun _ h9 => h9) rfl dX8_addWord_72 ?_
        refine lv_iconst (v := 1) hx hb dX8_addWord_75 (by decide) ?_
        refine lv_iadd hx hb dX8_addWord_76 ?_
        refine va_put (D := (dC, dI)) (ci := 7) (v := .int (v_this_words + 1)) (ty := .int) (C := RX8) (T := TX8) (N := 9) hx hb hts inX8 tyX8 tyX8_ok nmX8 hown hK hP hD hS 0 rfl rfl 4 (by decide) lk1 (fun _ h9 => h9) rfl (by decide +kernel) rfl rfl (Nat.le_of_ble_eq_true rfl) dX8_addWord_77 (fun H locs hP hD hS => ?_)
        have hP : va_P (dC, dI) vwCl (zW_X8_addWord cI cC cS q_this q_this_kinds q_this_sets q_this_weights q_this_stocks q_this_readers q_this_eighths q_this_wishes (v_this_words + 1) v_this_roads (upd f_this_kinds (Int32.toNatClampNeg v_this_words) x1) (upd f_this_sets (Int32.toNatClampNeg v_this_words) 16) (upd f_this_weights (Int32.toNatClampNeg v_this_words) x3) (upd f_this_stocks (Int32.toNatClampNeg v_this_words) 0)) H := hP
        have hD : va_D A (zW_X8_addWord cI cC cS q_this q_this_kinds q_this_sets q_this_weights q_this_stocks q_this_readers q_this_eighths q_this_wishes (v_this_words + 1) v_this_roads (upd f_this_kinds (Int32.toNatClampNeg v_this_words) x1) (upd f_this_sets (Int32.toNatClampNeg v_this_words) 16) (upd f_this_weights (Int32.toNatClampNeg v_this_words) x3) (upd f_this_stocks (Int32.toNatClampNeg v_this_words) 0)) := hD
        refine lv_iconst (v := 1) hx hb dX8_addWord_80 (by decide) ?_
        exact z_zret hx hb hr rfl hlocks ((v_this_words + 1), (upd f_this_kinds (Int32.toNatClampNeg v_this_words) x1), (upd f_this_sets (Int32.toNatClampNeg v_this_words) 16), (upd f_this_weights (Int32.toNatClampNeg v_this_words) x3), (upd f_this_stocks (Int32.toNatClampNeg v_this_words) 0)) hf hK hP hD hS dX8_addWord_81
      · replace hf := hf.1 c3
        refine lv_iload_n hx hb dX8_addWord_43 rfl (lv_at hl 2 rfl) ?_
        refine lv_goto (tgt := 49) hx hb dX8_addWord_44 (by decide) ?_
        refine va_iast hx hb hK hP hD hS 2 0 rfl rfl hf.1 dX8_addWord_49 (fun H locs hP hD hS => ?_)
        replace hf := hf.2
        have hP : va_P (dC, dI) vwCl (zW_X8_addWord cI cC cS q_this q_this_kinds q_this_sets q_this_weights q_this_stocks q_this_readers q_this_eighths q_this_wishes v_this_words v_this_roads (upd f_this_kinds (Int32.toNatClampNeg v_this_words) x1) (upd f_this_sets (Int32.toNatClampNeg v_this_words) x2) f_this_weights f_this_stocks) H := hP
        have hD : va_D A (zW_X8_addWord cI cC cS q_this q_this_kinds q_this_sets q_this_weights q_this_stocks q_this_readers q_this_eighths q_this_wishes v_this_words v_this_roads (upd f_this_kinds (Int32.toNatClampNeg v_this_words) x1) (upd f_this_sets (Int32.toNatClampNeg v_this_words) x2) f_this_weights f_this_stocks) := hD
        refine lv_aload_n hx hb dX8_addWord_50 rfl (lv_at hl 0 rfl) ?_
        refine va_get (D := (dC, dI)) (ci := 7) (v := .ref q_this_weights) (C := RX8) (T := TX8) (N := 9) hx hb hts inX8 hown hK hP 0 rfl rfl 2 (by decide) lk4 (fun _ h9 => h9) rfl dX8_addWord_51 ?_
        refine lv_aload_n hx hb dX8_addWord_54 rfl (lv_at hl 0 rfl) ?_
        refine va_get (D := (dC, dI)) (ci := 7) (v := .int v_this_words) (C := RX8) (T := TX8) (N := 9) hx hb hts inX8 hown hK hP 0 rfl rfl 4 (by decide) lk1 (fun _ h9 => h9) rfl dX8_addWord_55 ?_
        refine lv_iload_n hx hb dX8_addWord_58 rfl (lv_at hl 3 rfl) ?_
        refine va_iast hx hb hK hP hD hS 3 0 rfl rfl hf.1 dX8_addWord_59 (fun H locs hP hD hS => ?_)
        replace hf := hf.2
        have hP : va_P (dC, dI) vwCl (zW_X8_addWord cI cC cS q_this q_this_kinds q_this_sets q_this_weights q_this_stocks q_this_readers q_this_eighths q_this_wishes v_this_words v_this_roads (upd f_this_kinds (Int32.toNatClampNeg v_this_words) x1) (upd f_this_sets (Int32.toNatClampNeg v_this_words) x2) (upd f_this_weights (Int32.toNatClampNeg v_this_words) x3) f_this_stocks) H := hP
        have hD : va_D A (zW_X8_addWord cI cC cS q_this q_this_kinds q_this_sets q_this_weights q_this_stocks q_this_readers q_this_eighths q_this_wishes v_this_words v_this_roads (upd f_this_kinds (Int32.toNatClampNeg v_this_words) x1) (upd f_this_sets (Int32.toNatClampNeg v_this_words) x2) (upd f_this_weights (Int32.toNatClampNeg v_this_words) x3) f_this_stocks) := hD
        refine lv_aload_n hx hb dX8_addWord_60 rfl (lv_at hl 0 rfl) ?_
        refine va_get (D := (dC, dI)) (ci := 7) (v := .ref q_this_stocks) (C := RX8) (T := TX8) (N := 9) hx hb hts inX8 hown hK hP 0 rfl rfl 3 (by decide) lk5 (fun _ h9 => h9) rfl dX8_addWord_61 ?_
        refine lv_aload_n hx hb dX8_addWord_64 rfl (lv_at hl 0 rfl) ?_
        refine va_get (D := (dC, dI)) (ci := 7) (v := .int v_this_words) (C := RX8) (T := TX8) (N := 9) hx hb hts inX8 hown hK hP 0 rfl rfl 4 (by decide) lk1 (fun _ h9 => h9) rfl dX8_addWord_65 ?_
        refine lv_iconst (v := 0) hx hb dX8_addWord_68 (by decide) ?_
        refine va_iast hx hb hK hP hD hS 4 0 rfl rfl hf.1 dX8_addWord_69 (fun H locs hP hD hS => ?_)
        replace hf := hf.2
        have hP : va_P (dC, dI) vwCl (zW_X8_addWord cI cC cS q_this q_this_kinds q_this_sets q_this_weights q_this_stocks q_this_readers q_this_eighths q_this_wishes v_this_words v_this_roads (upd f_this_kinds (Int32.toNatClampNeg v_this_words) x1) (upd f_this_sets (Int32.toNatClampNeg v_this_words) x2) (upd f_this_weights (Int32.toNatClampNeg v_this_words) x3) (upd f_this_stocks (Int32.toNatClampNeg v_this_words) 0)) H := hP
        have hD : va_D A (zW_X8_addWord cI cC cS q_this q_this_kinds q_this_sets q_this_weights q_this_stocks q_this_readers q_this_eighths q_this_wishes v_this_words v_this_roads (upd f_this_kinds (Int32.toNatClampNeg v_this_words) x1) (upd f_this_sets (Int32.toNatClampNeg v_this_words) x2) (upd f_this_weights (Int32.toNatClampNeg v_this_words) x3) (upd f_this_stocks (Int32.toNatClampNeg v_this_words) 0)) := hD
        refine lv_aload_n hx hb dX8_addWord_70 rfl (lv_at hl 0 rfl) ?_
        refine lv_dup hx hb dX8_addWord_71 rfl ?_
        refine va_get (D := (dC, dI)) (ci := 7) (v := .int v_this_words) (C := RX8) (T := TX8) (N := 9) hx hb hts inX8 hown hK hP 0 rfl rfl 4 (by decide) lk1 (fun _ h9 => h9) rfl dX8_addWord_72 ?_
        refine lv_iconst (v := 1) hx hb dX8_addWord_75 (by decide) ?_
        refine lv_iadd hx hb dX8_addWord_76 ?_
        refine va_put (D := (dC, dI)) (ci := 7) (v := .int (v_this_words + 1)) (ty := .int) (C := RX8) (T := TX8) (N := 9) hx hb hts inX8 tyX8 tyX8_ok nmX8 hown hK hP hD hS 0 rfl rfl 4 (by decide) lk1 (fun _ h9 => h9) rfl (by decide +kernel) rfl rfl (Nat.le_of_ble_eq_true rfl) dX8_addWord_77 (fun H locs hP hD hS => ?_)
        have hP : va_P (dC, dI) vwCl (zW_X8_addWord cI cC cS q_this q_this_kinds q_this_sets q_this_weights q_this_stocks q_this_readers q_this_eighths q_this_wishes (v_this_words + 1) v_this_roads (upd f_this_kinds (Int32.toNatClampNeg v_this_words) x1) (upd f_this_sets (Int32.toNatClampNeg v_this_words) x2) (upd f_this_weights (Int32.toNatClampNeg v_this_words) x3) (upd f_this_stocks (Int32.toNatClampNeg v_this_words) 0)) H := hP
        have hD : va_D A (zW_X8_addWord cI cC cS q_this q_this_kinds q_this_sets q_this_weights q_this_stocks q_this_readers q_this_eighths q_this_wishes (v_this_words + 1) v_this_roads (upd f_this_kinds (Int32.toNatClampNeg v_this_words) x1) (upd f_this_sets (Int32.toNatClampNeg v_this_words) x2) (upd f_this_weights (Int32.toNatClampNeg v_this_words) x3) (upd f_this_stocks (Int32.toNatClampNeg v_this_words) 0)) := hD
        refine lv_iconst (v := 1) hx hb dX8_addWord_80 (by decide) ?_
        exact z_zret hx hb hr rfl hlocks ((v_this_words + 1), (upd f_this_kinds (Int32.toNatClampNeg v_this_words) x1), (upd f_this_sets (Int32.toNatClampNeg v_this_words) x2), (upd f_this_weights (Int32.toNatClampNeg v_this_words) x3), (upd f_this_stocks (Int32.toNatClampNeg v_this_words) 0)) hf hK hP hD hS dX8_addWord_81
    · replace hf := hf.1 c2
      refine lv_iload_n hx hb dX8_addWord_13 rfl (lv_at hl 2 rfl) ?_
      refine lv_bipush (v := 16) hx hb dX8_addWord_14 (by decide) ?_
      refine lv_icmp_lt (tgt := 21) hx hb dX8_addWord_16 (by decide) (fun c4 => ?_) (fun c4 => ?_)
      · replace hf := hf.1 c4
        refine lv_aload_n hx hb dX8_addWord_21 rfl (lv_at hl 0 rfl) ?_
        refine va_get (D := (dC, dI)) (ci := 7) (v := .ref q_this_kinds) (C := RX8) (T := TX8) (N := 9) hx hb hts inX8 hown hK hP 0 rfl rfl 0 (by decide) lk2 (fun _ h9 => h9) rfl dX8_addWord_22 ?_
        refine lv_aload_n hx hb dX8_addWord_25 rfl (lv_at hl 0 rfl) ?_
        refine va_get (D := (dC, dI)) (ci := 7) (v := .int v_this_words) (C := RX8) (T := TX8) (N := 9) hx hb hts inX8 hown hK hP 0 rfl rfl 4 (by decide) lk1 (fun _ h9 => h9) rfl dX8_addWord_26 ?_
        refine lv_iload_n hx hb dX8_addWord_29 rfl (lv_at hl 1 rfl) ?_
        refine va_iast hx hb hK hP hD hS 1 0 rfl rfl hf.1 dX8_addWord_30 (fun H locs hP hD hS => ?_)
        replace hf := hf.2
        have hP : va_P (dC, dI) vwCl (zW_X8_addWord cI cC cS q_this q_this_kinds q_this_sets q_this_weights q_this_stocks q_this_readers q_this_eighths q_this_wishes v_this_words v_this_roads (upd f_this_kinds (Int32.toNatClampNeg v_this_words) x1) f_this_sets f_this_weights f_this_stocks) H := hP
        have hD : va_D A (zW_X8_addWord cI cC cS q_this q_this_kinds q_this_sets q_this_weights q_this_stocks q_this_readers q_this_eighths q_this_wishes v_this_words v_this_roads (upd f_this_kinds (Int32.toNatClampNeg v_this_words) x1) f_this_sets f_this_weights f_this_stocks) := hD
        refine lv_aload_n hx hb dX8_addWord_31 rfl (lv_at hl 0 rfl) ?_
        refine va_get (D := (dC, dI)) (ci := 7) (v := .ref q_this_sets) (C := RX8) (T := TX8) (N := 9) hx hb hts inX8 hown hK hP 0 rfl rfl 1 (by decide) lk3 (fun _ h9 => h9) rfl dX8_addWord_32 ?_
        refine lv_aload_n hx hb dX8_addWord_35 rfl (lv_at hl 0 rfl) ?_
        refine va_get (D := (dC, dI)) (ci := 7) (v := .int v_this_words) (C := RX8) (T := TX8) (N := 9) hx hb hts inX8 hown hK hP 0 rfl rfl 4 (by decide) lk1 (fun _ h9 => h9) rfl dX8_addWord_36 ?_
        refine lv_iload_n hx hb dX8_addWord_39 rfl (lv_at hl 1 rfl) ?_
        refine lv_if_ne (tgt := 47) hx hb dX8_addWord_40 (by decide) (fun c5 => ?_) (fun c5 => ?_)
        · replace hf := hf.2 c5
          refine lv_bipush (v := 16) hx hb dX8_addWord_47 (by decide) ?_
          refine va_iast hx hb hK hP hD hS 2 0 rfl rfl hf.1 dX8_addWord_49 (fun H locs hP hD hS => ?_)
          replace hf := hf.2
          have hP : va_P (dC, dI) vwCl (zW_X8_addWord cI cC cS q_this q_this_kinds q_this_sets q_this_weights q_this_stocks q_this_readers q_this_eighths q_this_wishes v_this_words v_this_roads (upd f_this_kinds (Int32.toNatClampNeg v_this_words) x1) (upd f_this_sets (Int32.toNatClampNeg v_this_words) 16) f_this_weights f_this_stocks) H := hP
          have hD : va_D A (zW_X8_addWord cI cC cS q_this q_this_kinds q_this_sets q_this_weights q_this_stocks q_this_readers q_this_eighths q_this_wishes v_this_words v_this_roads (upd f_this_kinds (Int32.toNatClampNeg v_this_words) x1) (upd f_this_sets (Int32.toNatClampNeg v_this_words) 16) f_this_weights f_this_stocks) := hD
          refine lv_aload_n hx hb dX8_addWord_50 rfl (lv_at hl 0 rfl) ?_
          refine va_get (D := (dC, dI)) (ci := 7) (v := .ref q_this_weights) (C := RX8) (T := TX8) (N := 9) hx hb hts inX8 hown hK hP 0 rfl rfl 2 (by decide) lk4 (fun _ h9 => h9) rfl dX8_addWord_51 ?_
          refine lv_aload_n hx hb dX8_addWord_54 rfl (lv_at hl 0 rfl) ?_
          refine va_get (D := (dC, dI)) (ci := 7) (v := .int v_this_words) (C := RX8) (T := TX8) (N := 9) hx hb hts inX8 hown hK hP 0 rfl rfl 4 (by decide) lk1 (fun _ h9 => h9) rfl dX8_addWord_55 ?_
          refine lv_iload_n hx hb dX8_addWord_58 rfl (lv_at hl 3 rfl) ?_
          refine va_iast hx hb hK hP hD hS 3 0 rfl rfl hf.1 dX8_addWord_59 (fun H locs hP hD hS => ?_)
          replace hf := hf.2
          have hP : va_P (dC, dI) vwCl (zW_X8_addWord cI cC cS q_this q_this_kinds q_this_sets q_this_weights q_this_stocks q_this_readers q_this_eighths q_this_wishes v_this_words v_this_roads (upd f_this_kinds (Int32.toNatClampNeg v_this_words) x1) (upd f_this_sets (Int32.toNatClampNeg v_this_words) 16) (upd f_this_weights (Int32.toNatClampNeg v_this_words) x3) f_this_stocks) H := hP
          have hD : va_D A (zW_X8_addWord cI cC cS q_this q_this_kinds q_this_sets q_this_weights q_this_stocks q_this_readers q_this_eighths q_this_wishes v_this_words v_this_roads (upd f_this_kinds (Int32.toNatClampNeg v_this_words) x1) (upd f_this_sets (Int32.toNatClampNeg v_this_words) 16) (upd f_this_weights (Int32.toNatClampNeg v_this_words) x3) f_this_stocks) := hD
          refine lv_aload_n hx hb dX8_addWord_60 rfl (lv_at hl 0 rfl) ?_
          refine va_get (D := (dC, dI)) (ci := 7) (v := .ref q_this_stocks) (C := RX8) (T := TX8) (N := 9) hx hb hts inX8 hown hK hP 0 rfl rfl 3 (by decide) lk5 (fun _ h9 => h9) rfl dX8_addWord_61 ?_
          refine lv_aload_n hx hb dX8_addWord_64 rfl (lv_at hl 0 rfl) ?_
          refine va_get (D := (dC, dI)) (ci := 7) (v := .int v_this_words) (C := RX8) (T := TX8) (N := 9) hx hb hts inX8 hown hK hP 0 rfl rfl 4 (by decide) lk1 (fun _ h9 => h9) rfl dX8_addWord_65 ?_
          refine lv_iconst (v := 0) hx hb dX8_addWord_68 (by decide) ?_
          refine va_iast hx hb hK hP hD hS 4 0 rfl rfl hf.1 dX8_addWord_69 (fun H locs hP hD hS => ?_)
          replace hf := hf.2
          have hP : va_P (dC, dI) vwCl (zW_X8_addWord cI cC cS q_this q_this_kinds q_this_sets q_this_weights q_this_stocks q_this_readers q_this_eighths q_this_wishes v_this_words v_this_roads (upd f_this_kinds (Int32.toNatClampNeg v_this_words) x1) (upd f_this_sets (Int32.toNatClampNeg v_this_words) 16) (upd f_this_weights (Int32.toNatClampNeg v_this_words) x3) (upd f_this_stocks (Int32.toNatClampNeg v_this_words) 0)) H := hP
          have hD : va_D A (zW_X8_addWord cI cC cS q_this q_this_kinds q_this_sets q_this_weights q_this_stocks q_this_readers q_this_eighths q_this_wishes v_this_words v_this_roads (upd f_this_kinds (Int32.toNatClampNeg v_this_words) x1) (upd f_this_sets (Int32.toNatClampNeg v_this_words) 16) (upd f_this_weights (Int32.toNatClampNeg v_this_words) x3) (upd f_this_stocks (Int32.toNatClampNeg v_this_words) 0)) := hD
          refine lv_aload_n hx hb dX8_addWord_70 rfl (lv_at hl 0 rfl) ?_
          refine lv_dup hx hb dX8_addWord_71 rfl ?_
          refine va_get (D := (dC, dI)) (ci := 7) (v := .int v_this_words) (C := RX8) (T := TX8) (N := 9) hx hb hts inX8 hown hK hP 0 rfl rfl 4 (by decide) lk1 (fun _ h9 => h9) rfl dX8_addWord_72 ?_
          refine lv_iconst (v := 1) hx hb dX8_addWord_75 (by decide) ?_
          refine lv_iadd hx hb dX8_addWord_76 ?_
          refine va_put (D := (dC, dI)) (ci := 7) (v := .int (v_this_words + 1)) (ty := .int) (C := RX8) (T := TX8) (N := 9) hx hb hts inX8 tyX8 tyX8_ok nmX8 hown hK hP hD hS 0 rfl rfl 4 (by decide) lk1 (fun _ h9 => h9) rfl (by decide +kernel) rfl rfl (Nat.le_of_ble_eq_true rfl) dX8_addWord_77 (fun H locs hP hD hS => ?_)
          have hP : va_P (dC, dI) vwCl (zW_X8_addWord cI cC cS q_this q_this_kinds q_this_sets q_this_weights q_this_stocks q_this_readers q_this_eighths q_this_wishes (v_this_words + 1) v_this_roads (upd f_this_kinds (Int32.toNatClampNeg v_this_words) x1) (upd f_this_sets (Int32.toNatClampNeg v_this_words) 16) (upd f_this_weights (Int32.toNatClampNeg v_this_words) x3) (upd f_this_stocks (Int32.toNatClampNeg v_this_words) 0)) H := hP
          have hD : va_D A (zW_X8_addWord cI cC cS q_this q_this_kinds q_this_sets q_this_weights q_this_stocks q_this_readers q_this_eighths q_this_wishes (v_this_words + 1) v_this_roads (upd f_this_kinds (Int32.toNatClampNeg v_this_words) x1) (upd f_this_sets (Int32.toNatClampNeg v_this_words) 16) (upd f_this_weights (Int32.toNatClampNeg v_this_words) x3) (upd f_this_stocks (Int32.toNatClampNeg v_this_words) 0)) := hD
          refine lv_iconst (v := 1) hx hb dX8_addWord_80 (by decide) ?_
          exact z_zret hx hb hr rfl hlocks ((v_this_words + 1), (upd f_this_kinds (Int32.toNatClampNeg v_this_words) x1), (upd f_this_sets (Int32.toNatClampNeg v_this_words) 16), (upd f_this_weights (Int32.toNatClampNeg v_this_words) x3), (upd f_this_stocks (Int32.toNatClampNeg v_this_words) 0)) hf hK hP hD hS dX8_addWord_81
        · replace hf := hf.1 c5
          refine lv_iload_n hx hb dX8_addWord_43 rfl (lv_at hl 2 rfl) ?_
          refine lv_goto (tgt := 49) hx hb dX8_addWord_44 (by decide) ?_
          refine va_iast hx hb hK hP hD hS 2 0 rfl rfl hf.1 dX8_addWord_49 (fun H locs hP hD hS => ?_)
          replace hf := hf.2
          have hP : va_P (dC, dI) vwCl (zW_X8_addWord cI cC cS q_this q_this_kinds q_this_sets q_this_weights q_this_stocks q_this_readers q_this_eighths q_this_wishes v_this_words v_this_roads (upd f_this_kinds (Int32.toNatClampNeg v_this_words) x1) (upd f_this_sets (Int32.toNatClampNeg v_this_words) x2) f_this_weights f_this_stocks) H := hP
          have hD : va_D A (zW_X8_addWord cI cC cS q_this q_this_kinds q_this_sets q_this_weights q_this_stocks q_this_readers q_this_eighths q_this_wishes v_this_words v_this_roads (upd f_this_kinds (Int32.toNatClampNeg v_this_words) x1) (upd f_this_sets (Int32.toNatClampNeg v_this_words) x2) f_this_weights f_this_stocks) := hD
          refine lv_aload_n hx hb dX8_addWord_50 rfl (lv_at hl 0 rfl) ?_
          refine va_get (D := (dC, dI)) (ci := 7) (v := .ref q_this_weights) (C := RX8) (T := TX8) (N := 9) hx hb hts inX8 hown hK hP 0 rfl rfl 2 (by decide) lk4 (fun _ h9 => h9) rfl dX8_addWord_51 ?_
          refine lv_aload_n hx hb dX8_addWord_54 rfl (lv_at hl 0 rfl) ?_
          refine va_get (D := (dC, dI)) (ci := 7) (v := .int v_this_words) (C := RX8) (T := TX8) (N := 9) hx hb hts inX8 hown hK hP 0 rfl rfl 4 (by decide) lk1 (fun _ h9 => h9) rfl dX8_addWord_55 ?_
          refine lv_iload_n hx hb dX8_addWord_58 rfl (lv_at hl 3 rfl) ?_
          refine va_iast hx hb hK hP hD hS 3 0 rfl rfl hf.1 dX8_addWord_59 (fun H locs hP hD hS => ?_)
          replace hf := hf.2
          have hP : va_P (dC, dI) vwCl (zW_X8_addWord cI cC cS q_this q_this_kinds q_this_sets q_this_weights q_this_stocks q_this_readers q_this_eighths q_this_wishes v_this_words v_this_roads (upd f_this_kinds (Int32.toNatClampNeg v_this_words) x1) (upd f_this_sets (Int32.toNatClampNeg v_this_words) x2) (upd f_this_weights (Int32.toNatClampNeg v_this_words) x3) f_this_stocks) H := hP
          have hD : va_D A (zW_X8_addWord cI cC cS q_this q_this_kinds q_this_sets q_this_weights q_this_stocks q_this_readers q_this_eighths q_this_wishes v_this_words v_this_roads (upd f_this_kinds (Int32.toNatClampNeg v_this_words) x1) (upd f_this_sets (Int32.toNatClampNeg v_this_words) x2) (upd f_this_weights (Int32.toNatClampNeg v_this_words) x3) f_this_stocks) := hD
          refine lv_aload_n hx hb dX8_addWord_60 rfl (lv_at hl 0 rfl) ?_
          refine va_get (D := (dC, dI)) (ci := 7) (v := .ref q_this_stocks) (C := RX8) (T := TX8) (N := 9) hx hb hts inX8 hown hK hP 0 rfl rfl 3 (by decide) lk5 (fun _ h9 => h9) rfl dX8_addWord_61 ?_
          refine lv_aload_n hx hb dX8_addWord_64 rfl (lv_at hl 0 rfl) ?_
          refine va_get (D := (dC, dI)) (ci := 7) (v := .int v_this_words) (C := RX8) (T := TX8) (N := 9) hx hb hts inX8 hown hK hP 0 rfl rfl 4 (by decide) lk1 (fun _ h9 => h9) rfl dX8_addWord_65 ?_
          refine lv_iconst (v := 0) hx hb dX8_addWord_68 (by decide) ?_
          refine va_iast hx hb hK hP hD hS 4 0 rfl rfl hf.1 dX8_addWord_69 (fun H locs hP hD hS => ?_)
          replace hf := hf.2
          have hP : va_P (dC, dI) vwCl (zW_X8_addWord cI cC cS q_this q_this_kinds q_this_sets q_this_weights q_this_stocks q_this_readers q_this_eighths q_this_wishes v_this_words v_this_roads (upd f_this_kinds (Int32.toNatClampNeg v_this_words) x1) (upd f_this_sets (Int32.toNatClampNeg v_this_words) x2) (upd f_this_weights (Int32.toNatClampNeg v_this_words) x3) (upd f_this_stocks (Int32.toNatClampNeg v_this_words) 0)) H := hP
          have hD : va_D A (zW_X8_addWord cI cC cS q_this q_this_kinds q_this_sets q_this_weights q_this_stocks q_this_readers q_this_eighths q_this_wishes v_this_words v_this_roads (upd f_this_kinds (Int32.toNatClampNeg v_this_words) x1) (upd f_this_sets (Int32.toNatClampNeg v_this_words) x2) (upd f_this_weights (Int32.toNatClampNeg v_this_words) x3) (upd f_this_stocks (Int32.toNatClampNeg v_this_words) 0)) := hD
          refine lv_aload_n hx hb dX8_addWord_70 rfl (lv_at hl 0 rfl) ?_
          refine lv_dup hx hb dX8_addWord_71 rfl ?_
          refine va_get (D := (dC, dI)) (ci := 7) (v := .int v_this_words) (C := RX8) (T := TX8) (N := 9) hx hb hts inX8 hown hK hP 0 rfl rfl 4 (by decide) lk1 (fun _ h9 => h9) rfl dX8_addWord_72 ?_
          refine lv_iconst (v := 1) hx hb dX8_addWord_75 (by decide) ?_
          refine lv_iadd hx hb dX8_addWord_76 ?_
          refine va_put (D := (dC, dI)) (ci := 7) (v := .int (v_this_words + 1)) (ty := .int) (C := RX8) (T := TX8) (N := 9) hx hb hts inX8 tyX8 tyX8_ok nmX8 hown hK hP hD hS 0 rfl rfl 4 (by decide) lk1 (fun _ h9 => h9) rfl (by decide +kernel) rfl rfl (Nat.le_of_ble_eq_true rfl) dX8_addWord_77 (fun H locs hP hD hS => ?_)
          have hP : va_P (dC, dI) vwCl (zW_X8_addWord cI cC cS q_this q_this_kinds q_this_sets q_this_weights q_this_stocks q_this_readers q_this_eighths q_this_wishes (v_this_words + 1) v_this_roads (upd f_this_kinds (Int32.toNatClampNeg v_this_words) x1) (upd f_this_sets (Int32.toNatClampNeg v_this_words) x2) (upd f_this_weights (Int32.toNatClampNeg v_this_words) x3) (upd f_this_stocks (Int32.toNatClampNeg v_this_words) 0)) H := hP
          have hD : va_D A (zW_X8_addWord cI cC cS q_this q_this_kinds q_this_sets q_this_weights q_this_stocks q_this_readers q_this_eighths q_this_wishes (v_this_words + 1) v_this_roads (upd f_this_kinds (Int32.toNatClampNeg v_this_words) x1) (upd f_this_sets (Int32.toNatClampNeg v_this_words) x2) (upd f_this_weights (Int32.toNatClampNeg v_this_words) x3) (upd f_this_stocks (Int32.toNatClampNeg v_this_words) 0)) := hD
          refine lv_iconst (v := 1) hx hb dX8_addWord_80 (by decide) ?_
          exact z_zret hx hb hr rfl hlocks ((v_this_words + 1), (upd f_this_kinds (Int32.toNatClampNeg v_this_words) x1), (upd f_this_sets (Int32.toNatClampNeg v_this_words) x2), (upd f_this_weights (Int32.toNatClampNeg v_this_words) x3), (upd f_this_stocks (Int32.toNatClampNeg v_this_words) 0)) hf hK hP hD hS dX8_addWord_81
      · replace hf := hf.2 c4
        refine lv_iconst (v := 0) hx hb dX8_addWord_19 (by decide) ?_
        exact z_zret hx hb hr rfl hlocks (v_this_words, f_this_kinds, f_this_sets, f_this_weights, f_this_stocks) hf hK hP hD hS dX8_addWord_20
def wp_X8_addRoad (N : Nat) (x1 : Int32) (x2 : Int32) (x3 : Int32) (v_this_roads : Int32) (f_this_readers : Nat → Int32) (f_this_eighths : Nat → Int32) (f_this_wishes : Nat → Int32) (Φ : Int32 → Int32 → (Nat → Int32) → (Nat → Int32) → (Nat → Int32) → Prop) : Prop := 
    ((6 ≤ v_this_roads → Φ 0 v_this_roads f_this_readers f_this_eighths f_this_wishes) ∧
     (¬ (6 ≤ v_this_roads) → ((7 < x2 → Φ 0 v_this_roads f_this_readers f_this_eighths f_this_wishes) ∧
     (¬ (7 < x2) → ((x3 ≤ 16 → (vp_in v_this_roads 6 ∧ (vp_in v_this_roads 6 ∧ (vp_in v_this_roads 6 ∧ Φ 1 (v_this_roads + 1) (upd f_this_readers (Int32.toNatClampNeg v_this_roads) x1) (upd f_this_eighths (Int32.toNatClampNeg v_this_roads) x2) (upd f_this_wishes (Int32.toNatClampNeg v_this_roads) x3))))) ∧
     (¬ (x3 ≤ 16) → Φ 0 v_this_roads f_this_readers f_this_eighths f_this_wishes))))))
abbrev zW_X8_addRoad (cI cC cS : ClassId) (q_this : Nat) (q_this_readers : Nat) (q_this_eighths : Nat) (q_this_wishes : Nat) (q_this_kinds : Nat) (q_this_sets : Nat) (q_this_weights : Nat) (q_this_stocks : Nat) (v_this_words : Int32) (v_this_roads : Int32) (f_this_readers : Nat → Int32) (f_this_eighths : Nat → Int32) (f_this_wishes : Nat → Int32) : va_W := [(q_this, .inr (7, [.ref q_this_kinds, .ref q_this_sets, .ref q_this_weights, .ref q_this_stocks, .int v_this_words, .ref q_this_readers, .ref q_this_eighths, .ref q_this_wishes, .int v_this_roads])),
  (q_this_readers, .inl (cI, 6, .inl f_this_readers)),
  (q_this_eighths, .inl (cI, 6, .inl f_this_eighths)),
  (q_this_wishes, .inl (cI, 6, .inl f_this_wishes))]
abbrev zr_X8_addRoad : Room := { frames := 0, cells := 0, slots := 0, locals := 0 }
set_option maxHeartbeats 4000000 in
set_option maxRecDepth 100000 in
theorem c_X8_addRoad (l : Launch) (dC : Nat → ClassId) (dI : Nat → Nat → Nat) (cI cC cS : ClassId) (q_this : Nat) (q_this_readers : Nat) (q_this_eighths : Nat) (q_this_wishes : Nat) (q_this_kinds : Nat) (q_this_sets : Nat) (q_this_weights : Nat) (q_this_stocks : Nat) (sz : Nat) (v_this_words : Int32) (v_this_roads : Int32) (f_this_readers : Nat → Int32) (f_this_eighths : Nat → Int32) (f_this_wishes : Nat → Int32) (x1 : Int32) (x2 : Int32) (x3 : Int32) (N : Nat) (Φ : Int32 → Int32 → (Nat → Int32) → (Nat → Int32) → (Nat → Int32) → Prop)  (hf : wp_X8_addRoad N x1 x2 x3 v_this_roads f_this_readers f_this_eighths f_this_wishes Φ) : Met l yX8_addRoad wsX8_addRoad zr_X8_addRoad (zPc (dC, dI) (zT cI cC cS) [.ref q_this, .int x1, .int x2, .int x3] sz (zW_X8_addRoad cI cC cS q_this q_this_readers q_this_eighths q_this_wishes q_this_kinds q_this_sets q_this_weights q_this_stocks v_this_words v_this_roads f_this_readers f_this_eighths f_this_wishes)) (zQi (dC, dI) (zT cI cC cS) (va_A (zW_X8_addRoad cI cC cS q_this q_this_readers q_this_eighths q_this_wishes q_this_kinds q_this_sets q_this_weights q_this_stocks v_this_words v_this_roads f_this_readers f_this_eighths f_this_wishes) sz) (fun (r : Int32) (u : (Int32) × (Nat → Int32) × (Nat → Int32) × (Nat → Int32)) => Φ r u.1 u.2.1 u.2.2.1 u.2.2.2) (fun u => (zW_X8_addRoad cI cC cS q_this q_this_readers q_this_eighths q_this_wishes q_this_kinds q_this_sets q_this_weights q_this_stocks v_this_words u.1 u.2.1 u.2.2.1 u.2.2.2))) 0 0 (va_A (zW_X8_addRoad cI cC cS q_this q_this_readers q_this_eighths q_this_wishes q_this_kinds q_this_sets q_this_weights q_this_stocks v_this_words v_this_roads f_this_readers f_this_eighths f_this_wishes) sz) := by
  refine Met.ofW (cc := cX8_addRoad) (maxL := 4) (ret := (some .boolean)) (by decide) rfl ?_
  intro p e s m args below meth c s₁ B hml hv
  obtain ⟨rfl, hsz, hP, hK, hD0⟩ := hv
  have hx := B.exec
  have hb := B.bytes
  have hr := B.returns
  have hts := atoms_spec (ws := wsX8_addRoad) B.pre
  have hown : s.vm.findClass RX8 = some m.cls := findClass_of_methodNamed B.named
  have hlocks := B.notSynchronized
  subst hsz
  have hD := hD0.self (sz := s.heap.size)
  have hA : ∀ q : Nat, s.heap.size ≤ q → va_A (zW_X8_addRoad cI cC cS q_this q_this_readers q_this_eighths q_this_wishes q_this_kinds q_this_sets q_this_weights q_this_stocks v_this_words v_this_roads f_this_readers f_this_eighths f_this_wishes) s.heap.size q := fun q h => Or.inr h
  generalize va_A (zW_X8_addRoad cI cC cS q_this q_this_readers q_this_eighths q_this_wishes q_this_kinds q_this_sets q_this_weights q_this_stocks v_this_words v_this_roads f_this_readers f_this_eighths f_this_wishes) s.heap.size = A at hD hA ⊢
  have hS : va_S A s.heap s.heap [] := va_S.rf
  have hl := lv_entry ([.ref q_this, .int x1, .int x2, .int x3]) (n := 4) (Nat.le_of_ble_eq_true rfl)
  rw [lg_entry_eq]
  generalize (lg_sl ([.ref q_this, .int x1, .int x2, .int x3]) ++ List.replicate (4 - (lg_sl ([.ref q_this, .int x1, .int x2, .int x3])).length) Slot.unset).toArray = ls at hl ⊢
  have hl : lv_has ls 4 [(0, .ref q_this), (1, .int x1), (2, .int x2), (3, .int x3)] := hl
  have lk1 := hts (.fieldLink RX8 37 "ReadFromAnywhere$Tongue" "roads" "I") (List.mem_of_getElem? (i := 1) rfl)
  have inX8 : ∀ w ∈ u_ws RX8 TX8 9, w ∈ wsX8_addRoad := fun _ h => List.mem_cons_of_mem _ (List.mem_append_right _ h)
  have lk2 := hts (.fieldLink RX8 28 "ReadFromAnywhere$Tongue" "readers" "[I") (List.mem_of_getElem? (i := 2) rfl)
  have lk3 := hts (.fieldLink RX8 31 "ReadFromAnywhere$Tongue" "eighths" "[I") (List.mem_of_getElem? (i := 3) rfl)
  have lk4 := hts (.fieldLink RX8 34 "ReadFromAnywhere$Tongue" "wishes" "[I") (List.mem_of_getElem? (i := 4) rfl)
  unfold wp_X8_addRoad at hf
  refine lv_aload_n hx hb dX8_addRoad_0 rfl (lv_at hl 0 rfl) ?_
  refine va_get (D := (dC, dI)) (ci := 7) (v := .int v_this_roads) (C := RX8) (T := TX8) (N := 9) hx hb hts inX8 hown hK hP 0 rfl rfl 8 (by decide) lk1 (fun _ h9 => h9) rfl dX8_addRoad_1 ?_
  refine lv_bipush (v := 6) hx hb dX8_addRoad_4 (by decide) ?_
  refine lv_icmp_ge (tgt := 21) hx hb dX8_addRoad_6 (by decide) (fun c1 => ?_) (fun c1 => ?_)
  · replace hf := hf.1 c1
    refine lv_iconst (v := 0) hx hb dX8_addRoad_21 (by decide) ?_
    exact z_zret hx hb hr rfl hlocks (v_this_roads, f_this_readers, f_this_eighths, f_this_wishes) hf hK hP hD hS dX8_addRoad_22
  · replace hf := hf.2 c1
    refine lv_iload_n hx hb dX8_addRoad_9 rfl (lv_at hl 2 rfl) ?_
    refine lv_bipush (v := 7) hx hb dX8_addRoad_10 (by decide) ?_
    refine lv_icmp_gt (tgt := 21) hx hb dX8_addRoad_12 (by decide) (fun c2 => ?_) (fun c2 => ?_)
    · replace hf := hf.1 c2
      refine lv_iconst (v := 0) hx hb dX8_addRoad_21 (by decide) ?_
      exact z_zret hx hb hr rfl hlocks (v_this_roads, f_this_readers, f_this_eighths, f_this_wishes) hf hK hP hD hS dX8_addRoad_22
    · replace hf := hf.2 c2
      refine lv_iload_n hx hb dX8_addRoad_15 rfl (lv_at hl 3 rfl) ?_
      refine lv_bipush (v := 16) hx hb dX8_addRoad_16 (by decide) ?_
      refine lv_icmp_le (tgt := 23) hx hb dX8_addRoad_18 (by decide) (fun c3 => ?_) (fun c3 => ?_)
      · replace hf := hf.1 c3
        refine lv_aload_n hx hb dX8_addRoad_23 rfl (lv_at hl 0 rfl) ?_
        refine va_get (D := (dC, dI)) (ci := 7) (v := .ref q_this_readers) (C := RX8) (T := TX8) (N := 9) hx hb hts inX8 hown hK hP 0 rfl rfl 5 (by decide) lk2 (fun _ h9 => h9) rfl dX8_addRoad_24 ?_
        refine lv_aload_n hx hb dX8_addRoad_27 rfl (lv_at hl 0 rfl) ?_
        refine va_get (D := (dC, dI)) (ci := 7) (v := .int v_this_roads) (C := RX8) (T := TX8) (N := 9) hx hb hts inX8 hown hK hP 0 rfl rfl 8 (by decide) lk1 (fun _ h9 => h9) rfl dX8_addRoad_28 ?_
        refine lv_iload_n hx hb dX8_addRoad_31 rfl (lv_at hl 1 rfl) ?_
        refine va_iast hx hb hK hP hD hS 1 0 rfl rfl hf.1 dX8_addRoad_32 (fun H locs hP hD hS => ?_)
        replace hf := hf.2
        have hP : va_P (dC, dI) vwCl (zW_X8_addRoad cI cC cS q_this q_this_readers q_this_eighths q_this_wishes q_this_kinds q_this_sets q_this_weights q_this_stocks v_this_words v_this_roads (upd f_this_readers (Int32.toNatClampNeg v_this_roads) x1) f_this_eighths f_this_wishes) H := hP
        have hD : va_D A (zW_X8_addRoad cI cC cS q_this q_this_readers q_this_eighths q_this_wishes q_this_kinds q_this_sets q_this_weights q_this_stocks v_this_words v_this_roads (upd f_this_readers (Int32.toNatClampNeg v_this_roads) x1) f_this_eighths f_this_wishes) := hD
        refine lv_aload_n hx hb dX8_addRoad_33 rfl (lv_at hl 0 rfl) ?_
        refine va_get (D := (dC, dI)) (ci := 7) (v := .ref q_this_eighths) (C := RX8) (T := TX8) (N := 9) hx hb hts inX8 hown hK hP 0 rfl rfl 6 (by decide) lk3 (fun _ h9 => h9) rfl dX8_addRoad_34 ?_
        refine lv_aload_n hx hb dX8_addRoad_37 rfl (lv_at hl 0 rfl) ?_
        refine va_get (D := (dC, dI)) (ci := 7) (v := .int v_this_roads) (C := RX8) (T := TX8) (N := 9) hx hb hts inX8 hown hK hP 0 rfl rfl 8 (by decide) lk1 (fun _ h9 => h9) rfl dX8_addRoad_38 ?_
        refine lv_iload_n hx hb dX8_addRoad_41 rfl (lv_at hl 2 rfl) ?_
        refine va_iast hx hb hK hP hD hS 2 0 rfl rfl hf.1 dX8_addRoad_42 (fun H locs hP hD hS => ?_)
        replace hf := hf.2
        have hP : va_P (dC, dI) vwCl (zW_X8_addRoad cI cC cS q_this q_this_readers q_this_eighths q_this_wishes q_this_kinds q_this_sets q_this_weights q_this_stocks v_this_words v_this_roads (upd f_this_readers (Int32.toNatClampNeg v_this_roads) x1) (upd f_this_eighths (Int32.toNatClampNeg v_this_roads) x2) f_this_wishes) H := hP
        have hD : va_D A (zW_X8_addRoad cI cC cS q_this q_this_readers q_this_eighths q_this_wishes q_this_kinds q_this_sets q_this_weights q_this_stocks v_this_words v_this_roads (upd f_this_readers (Int32.toNatClampNeg v_this_roads) x1) (upd f_this_eighths (Int32.toNatClampNeg v_this_roads) x2) f_this_wishes) := hD
        refine lv_aload_n hx hb dX8_addRoad_43 rfl (lv_at hl 0 rfl) ?_
        refine va_get (D := (dC, dI)) (ci := 7) (v := .ref q_this_wishes) (C := RX8) (T := TX8) (N := 9) hx hb hts inX8 hown hK hP 0 rfl rfl 7 (by decide) lk4 (fun _ h9 => h9) rfl dX8_addRoad_44 ?_
        refine lv_aload_n hx hb dX8_addRoad_47 rfl (lv_at hl 0 rfl) ?_
        refine va_get (D := (dC, dI)) (ci := 7) (v := .int v_this_roads) (C := RX8) (T := TX8) (N := 9) hx hb hts inX8 hown hK hP 0 rfl rfl 8 (by decide) lk1 (fun _ h9 => h9) rfl dX8_addRoad_48 ?_
        refine lv_iload_n hx hb dX8_addRoad_51 rfl (lv_at hl 3 rfl) ?_
        refine va_iast hx hb hK hP hD hS 3 0 rfl rfl hf.1 dX8_addRoad_52 (fun H locs hP hD hS => ?_)
        replace hf := hf.2
        have hP : va_P (dC, dI) vwCl (zW_X8_addRoad cI cC cS q_this q_this_readers q_this_eighths q_this_wishes q_this_kinds q_this_sets q_this_weights q_this_stocks v_this_words v_this_roads (upd f_this_readers (Int32.toNatClampNeg v_this_roads) x1) (upd f_this_eighths (Int32.toNatClampNeg v_this_roads) x2) (upd f_this_wishes (Int32.toNatClampNeg v_this_roads) x3)) H := hP
        have hD : va_D A (zW_X8_addRoad cI cC cS q_this q_this_readers q_this_eighths q_this_wishes q_this_kinds q_this_sets q_this_weights q_this_stocks v_this_words v_this_roads (upd f_this_readers (Int32.toNatClampNeg v_this_roads) x1) (upd f_this_eighths (Int32.toNatClampNeg v_this_roads) x2) (upd f_this_wishes (Int32.toNatClampNeg v_this_roads) x3)) := hD
        refine lv_aload_n hx hb dX8_addRoad_53 rfl (lv_at hl 0 rfl) ?_
        refine lv_dup hx hb dX8_addRoad_54 rfl ?_
        refine va_get (D := (dC, dI)) (ci := 7) (v := .int v_this_roads) (C := RX8) (T := TX8) (N := 9) hx hb hts inX8 hown hK hP 0 rfl rfl 8 (by decide) lk1 (fun _ h9 => h9) rfl dX8_addRoad_55 ?_
        refine lv_iconst (v := 1) hx hb dX8_addRoad_58 (by decide) ?_
        refine lv_iadd hx hb dX8_addRoad_59 ?_
        refine va_put (D := (dC, dI)) (ci := 7) (v := .int (v_this_roads + 1)) (ty := .int) (C := RX8) (T := TX8) (N := 9) hx hb hts inX8 tyX8 tyX8_ok nmX8 hown hK hP hD hS 0 rfl rfl 8 (by decide) lk1 (fun _ h9 => h9) rfl (by decide +kernel) rfl rfl (Nat.le_of_ble_eq_true rfl) dX8_addRoad_60 (fun H locs hP hD hS => ?_)
        have hP : va_P (dC, dI) vwCl (zW_X8_addRoad cI cC cS q_this q_this_readers q_this_eighths q_this_wishes q_this_kinds q_this_sets q_this_weights q_this_stocks v_this_words (v_this_roads + 1) (upd f_this_readers (Int32.toNatClampNeg v_this_roads) x1) (upd f_this_eighths (Int32.toNatClampNeg v_this_roads) x2) (upd f_this_wishes (Int32.toNatClampNeg v_this_roads) x3)) H := hP
        have hD : va_D A (zW_X8_addRoad cI cC cS q_this q_this_readers q_this_eighths q_this_wishes q_this_kinds q_this_sets q_this_weights q_this_stocks v_this_words (v_this_roads + 1) (upd f_this_readers (Int32.toNatClampNeg v_this_roads) x1) (upd f_this_eighths (Int32.toNatClampNeg v_this_roads) x2) (upd f_this_wishes (Int32.toNatClampNeg v_this_roads) x3)) := hD
        refine lv_iconst (v := 1) hx hb dX8_addRoad_63 (by decide) ?_
        exact z_zret hx hb hr rfl hlocks ((v_this_roads + 1), (upd f_this_readers (Int32.toNatClampNeg v_this_roads) x1), (upd f_this_eighths (Int32.toNatClampNeg v_this_roads) x2), (upd f_this_wishes (Int32.toNatClampNeg v_this_roads) x3)) hf hK hP hD hS dX8_addRoad_64
      · replace hf := hf.2 c3
        refine lv_iconst (v := 0) hx hb dX8_addRoad_21 (by decide) ?_
        exact z_zret hx hb hr rfl hlocks (v_this_roads, f_this_readers, f_this_eighths, f_this_wishes) hf hK hP hD hS dX8_addRoad_22
def wp_X8_stock (N : Nat) (x1 : Int32) (x2 : Int32) (v_this_words : Int32) (f_this_stocks : Nat → Int32) (Φ : Int32 → (Nat → Int32) → Prop) : Prop := 
    wp_X8_hasWord N x1 v_this_words (fun r1 => 
     ((r1 = 0 → Φ 0 f_this_stocks) ∧
     (¬ (r1 = 0) → (vp_in x1 6 ∧ Φ 1 (upd f_this_stocks (Int32.toNatClampNeg x1) x2)))))
abbrev zW_X8_stock (cI cC cS : ClassId) (q_this : Nat) (q_this_stocks : Nat) (q_this_kinds : Nat) (q_this_sets : Nat) (q_this_weights : Nat) (q_this_readers : Nat) (q_this_eighths : Nat) (q_this_wishes : Nat) (v_this_words : Int32) (v_this_roads : Int32) (f_this_stocks : Nat → Int32) : va_W := [(q_this, .inr (7, [.ref q_this_kinds, .ref q_this_sets, .ref q_this_weights, .ref q_this_stocks, .int v_this_words, .ref q_this_readers, .ref q_this_eighths, .ref q_this_wishes, .int v_this_roads])),
  (q_this_stocks, .inl (cI, 6, .inl f_this_stocks))]
abbrev zr_X8_stock : Room := { frames := 1, cells := 0, slots := 0, locals := 21 }
set_option maxHeartbeats 4000000 in
set_option maxRecDepth 100000 in
theorem c_X8_stock (l : Launch) (dC : Nat → ClassId) (dI : Nat → Nat → Nat) (cI cC cS : ClassId) (q_this : Nat) (q_this_stocks : Nat) (q_this_kinds : Nat) (q_this_sets : Nat) (q_this_weights : Nat) (q_this_readers : Nat) (q_this_eighths : Nat) (q_this_wishes : Nat) (sz : Nat) (v_this_words : Int32) (v_this_roads : Int32) (f_this_stocks : Nat → Int32) (x1 : Int32) (x2 : Int32) (N : Nat) (Φ : Int32 → (Nat → Int32) → Prop)  (hf : wp_X8_stock N x1 x2 v_this_words f_this_stocks Φ) : Met l yX8_stock wsX8_stock zr_X8_stock (zPc (dC, dI) (zT cI cC cS) [.ref q_this, .int x1, .int x2] sz (zW_X8_stock cI cC cS q_this q_this_stocks q_this_kinds q_this_sets q_this_weights q_this_readers q_this_eighths q_this_wishes v_this_words v_this_roads f_this_stocks)) (zQi (dC, dI) (zT cI cC cS) (va_A (zW_X8_stock cI cC cS q_this q_this_stocks q_this_kinds q_this_sets q_this_weights q_this_readers q_this_eighths q_this_wishes v_this_words v_this_roads f_this_stocks) sz) (fun (r : Int32) (u : (Nat → Int32)) => Φ r u) (fun u => (zW_X8_stock cI cC cS q_this q_this_stocks q_this_kinds q_this_sets q_this_weights q_this_readers q_this_eighths q_this_wishes v_this_words v_this_roads u))) 0 0 (va_A (zW_X8_stock cI cC cS q_this q_this_stocks q_this_kinds q_this_sets q_this_weights q_this_readers q_this_eighths q_this_wishes v_this_words v_this_roads f_this_stocks) sz) := by
  refine Met.ofW (cc := cX8_stock) (maxL := 3) (ret := (some .boolean)) (by decide) rfl ?_
  intro p e s m args below meth c s₁ B hml hv
  obtain ⟨rfl, hsz, hP, hK, hD0⟩ := hv
  have hx := B.exec
  have hb := B.bytes
  have hr := B.returns
  have hts := atoms_spec (ws := wsX8_stock) B.pre
  have hown : s.vm.findClass RX8 = some m.cls := findClass_of_methodNamed B.named
  have hlocks := B.notSynchronized
  subst hsz
  have hD := hD0.self (sz := s.heap.size)
  have hA : ∀ q : Nat, s.heap.size ≤ q → va_A (zW_X8_stock cI cC cS q_this q_this_stocks q_this_kinds q_this_sets q_this_weights q_this_readers q_this_eighths q_this_wishes v_this_words v_this_roads f_this_stocks) s.heap.size q := fun q h => Or.inr h
  generalize va_A (zW_X8_stock cI cC cS q_this q_this_stocks q_this_kinds q_this_sets q_this_weights q_this_readers q_this_eighths q_this_wishes v_this_words v_this_roads f_this_stocks) s.heap.size = A at hD hA ⊢
  have hS : va_S A s.heap s.heap [] := va_S.rf
  have hl := lv_entry ([.ref q_this, .int x1, .int x2]) (n := 3) (Nat.le_of_ble_eq_true rfl)
  rw [lg_entry_eq]
  generalize (lg_sl ([.ref q_this, .int x1, .int x2]) ++ List.replicate (3 - (lg_sl ([.ref q_this, .int x1, .int x2])).length) Slot.unset).toArray = ls at hl ⊢
  have hl : lv_has ls 3 [(0, .ref q_this), (1, .int x1), (2, .int x2)] := hl
  have lk1 := hts (.fieldLink RX8 21 "ReadFromAnywhere$Tongue" "stocks" "[I") (List.mem_of_getElem? (i := 1) rfl)
  have inX8 : ∀ w ∈ u_ws RX8 TX8 9, w ∈ wsX8_stock := fun _ h => List.mem_cons_of_mem _ (List.mem_append_right _ h)
  unfold wp_X8_stock at hf
  refine lv_aload_n hx hb dX8_stock_0 rfl (lv_at hl 0 rfl) ?_
  refine lv_iload_n hx hb dX8_stock_1 rfl (lv_at hl 1 rfl) ?_
  refine z_Vi (n := 1) (As := [.int x1]) (rest := []) ⟨hx, hb, hml, hown, hts⟩ (c_X8_hasWord l dC dI cI cC cS q_this q_this_kinds q_this_sets q_this_weights q_this_stocks q_this_readers q_this_eighths q_this_wishes _ v_this_words v_this_roads x1 N _  hf) gX8_stock_X8_hasWord rfl rfl rfl (by decide +kernel) ⟨Nat.le_of_ble_eq_true rfl, Nat.le_of_ble_eq_true rfl⟩ hK hP hD hS hA 0 7 rfl rfl rfl hl.1 rfl (Nat.le_of_ble_eq_true rfl) dX8_stock_2 ⟨Nat.zero_le _, Nat.zero_le _⟩ [0] [1] (([(q_this_stocks, .inl (cI, 6, .inl f_this_stocks))] : va_W)) rfl rfl (by decide) (by decide) (by decide) (fun u => (zW_X8_stock cI cC cS q_this q_this_stocks q_this_kinds q_this_sets q_this_weights q_this_readers q_this_eighths q_this_wishes v_this_words v_this_roads f_this_stocks)) [1, 0] (fun u => rfl) (by decide) (fun r1 u1 H locs hf hP hD hS => ?_)
  have hP : va_P (dC, dI) vwCl (zW_X8_stock cI cC cS q_this q_this_stocks q_this_kinds q_this_sets q_this_weights q_this_readers q_this_eighths q_this_wishes v_this_words v_this_roads f_this_stocks) H := hP
  have hD : va_D A (zW_X8_stock cI cC cS q_this q_this_stocks q_this_kinds q_this_sets q_this_weights q_this_readers q_this_eighths q_this_wishes v_this_words v_this_roads f_this_stocks) := hD
  refine lv_if_ne (tgt := 10) hx hb dX8_stock_5 (by decide) (fun c2 => ?_) (fun c2 => ?_)
  · replace hf := hf.2 c2
    refine lv_aload_n hx hb dX8_stock_10 rfl (lv_at hl 0 rfl) ?_
    refine va_get (D := (dC, dI)) (ci := 7) (v := .ref q_this_stocks) (C := RX8) (T := TX8) (N := 9) hx hb hts inX8 hown hK hP 0 rfl rfl 3 (by decide) lk1 (fun _ h9 => h9) rfl dX8_stock_11 ?_
    refine lv_iload_n hx hb dX8_stock_14 rfl (lv_at hl 1 rfl) ?_
    refine lv_iload_n hx hb dX8_stock_15 rfl (lv_at hl 2 rfl) ?_
    refine va_iast hx hb hK hP hD hS 1 0 rfl rfl hf.1 dX8_stock_16 (fun H locs hP hD hS => ?_)
    replace hf := hf.2
    have hP : va_P (dC, dI) vwCl (zW_X8_stock cI cC cS q_this q_this_stocks q_this_kinds q_this_sets q_this_weights q_this_readers q_this_eighths q_this_wishes v_this_words v_this_roads (upd f_this_stocks (Int32.toNatClampNeg x1) x2)) H := hP
    have hD : va_D A (zW_X8_stock cI cC cS q_this q_this_stocks q_this_kinds q_this_sets q_this_weights q_this_readers q_this_eighths q_this_wishes v_this_words v_this_roads (upd f_this_stocks (Int32.toNatClampNeg x1) x2)) := hD
    refine lv_iconst (v := 1) hx hb dX8_stock_17 (by decide) ?_
    exact z_zret hx hb hr rfl hlocks ((upd f_this_stocks (Int32.toNatClampNeg x1) x2)) hf hK hP hD hS dX8_stock_18
  · replace hf := hf.1 c2
    refine lv_iconst (v := 0) hx hb dX8_stock_8 (by decide) ?_
    exact z_zret hx hb hr rfl hlocks (f_this_stocks) hf hK hP hD hS dX8_stock_9
def lp_X8_allStock_4 (N : Nat) (v_this_words : Int32) (f_this_stocks : Nat → Int32) (Φ : Int32 → Prop) : Nat → Int32 → Int32 → Prop
  | 0, _, _ => False
  | n + 1, x1, x2 => 
    ((v_this_words ≤ x2 → Φ x1) ∧
     (¬ (v_this_words ≤ x2) → (vp_in x2 6 ∧ (lp_X8_allStock_4 N v_this_words f_this_stocks Φ n) (x1 + (f_this_stocks (Int32.toNatClampNeg x2))) (x2 + 1))))
def wp_X8_allStock (N : Nat) (v_this_words : Int32) (f_this_stocks : Nat → Int32) (Φ : Int32 → Prop) : Prop := 
    lp_X8_allStock_4 N v_this_words f_this_stocks Φ N 0 0
abbrev zW_X8_allStock (cI cC cS : ClassId) (q_this : Nat) (q_this_stocks : Nat) (q_this_kinds : Nat) (q_this_sets : Nat) (q_this_weights : Nat) (q_this_readers : Nat) (q_this_eighths : Nat) (q_this_wishes : Nat) (v_this_words : Int32) (v_this_roads : Int32) (f_this_stocks : Nat → Int32) : va_W := [(q_this, .inr (7, [.ref q_this_kinds, .ref q_this_sets, .ref q_this_weights, .ref q_this_stocks, .int v_this_words, .ref q_this_readers, .ref q_this_eighths, .ref q_this_wishes, .int v_this_roads])),
  (q_this_stocks, .inl (cI, 6, .inl f_this_stocks))]
abbrev zr_X8_allStock : Room := { frames := 0, cells := 0, slots := 0, locals := 0 }
set_option maxHeartbeats 4000000 in
set_option maxRecDepth 100000 in
theorem c_X8_allStock (l : Launch) (dC : Nat → ClassId) (dI : Nat → Nat → Nat) (cI cC cS : ClassId) (q_this : Nat) (q_this_stocks : Nat) (q_this_kinds : Nat) (q_this_sets : Nat) (q_this_weights : Nat) (q_this_readers : Nat) (q_this_eighths : Nat) (q_this_wishes : Nat) (sz : Nat) (v_this_words : Int32) (v_this_roads : Int32) (f_this_stocks : Nat → Int32) (N : Nat) (Φ : Int32 → Prop)  (hf : wp_X8_allStock N v_this_words f_this_stocks Φ) : Met l yX8_allStock wsX8_allStock zr_X8_allStock (zPc (dC, dI) (zT cI cC cS) [.ref q_this] sz (zW_X8_allStock cI cC cS q_this q_this_stocks q_this_kinds q_this_sets q_this_weights q_this_readers q_this_eighths q_this_wishes v_this_words v_this_roads f_this_stocks)) (zQi (dC, dI) (zT cI cC cS) (va_A (zW_X8_allStock cI cC cS q_this q_this_stocks q_this_kinds q_this_sets q_this_weights q_this_readers q_this_eighths q_this_wishes v_this_words v_this_roads f_this_stocks) sz) (fun (r : Int32) (u : Unit) => Φ r) (fun u => (zW_X8_allStock cI cC cS q_this q_this_stocks q_this_kinds q_this_sets q_this_weights q_this_readers q_this_eighths q_this_wishes v_this_words v_this_roads f_this_stocks))) 0 0 (va_A (zW_X8_allStock cI cC cS q_this q_this_stocks q_this_kinds q_this_sets q_this_weights q_this_readers q_this_eighths q_this_wishes v_this_words v_this_roads f_this_stocks) sz) := by
  refine Met.ofW (cc := cX8_allStock) (maxL := 3) (ret := (some .int)) (by decide) rfl ?_
  intro p e s m args below meth c s₁ B hml hv
  obtain ⟨rfl, hsz, hP, hK, hD0⟩ := hv
  have hx := B.exec
  have hb := B.bytes
  have hr := B.returns
  have hts := atoms_spec (ws := wsX8_allStock) B.pre
  have hown : s.vm.findClass RX8 = some m.cls := findClass_of_methodNamed B.named
  have hlocks := B.notSynchronized
  subst hsz
  have hD := hD0.self (sz := s.heap.size)
  have hA : ∀ q : Nat, s.heap.size ≤ q → va_A (zW_X8_allStock cI cC cS q_this q_this_stocks q_this_kinds q_this_sets q_this_weights q_this_readers q_this_eighths q_this_wishes v_this_words v_this_roads f_this_stocks) s.heap.size q := fun q h => Or.inr h
  generalize va_A (zW_X8_allStock cI cC cS q_this q_this_stocks q_this_kinds q_this_sets q_this_weights q_this_readers q_this_eighths q_this_wishes v_this_words v_this_roads f_this_stocks) s.heap.size = A at hD hA ⊢
  have hS : va_S A s.heap s.heap [] := va_S.rf
  have hl := lv_entry ([.ref q_this]) (n := 3) (Nat.le_of_ble_eq_true rfl)
  rw [lg_entry_eq]
  generalize (lg_sl ([.ref q_this]) ++ List.replicate (3 - (lg_sl ([.ref q_this])).length) Slot.unset).toArray = ls at hl ⊢
  have hl : lv_has ls 3 [(0, .ref q_this)] := hl
  have lk1 := hts (.fieldLink RX8 24 "ReadFromAnywhere$Tongue" "words" "I") (List.mem_of_getElem? (i := 1) rfl)
  have inX8 : ∀ w ∈ u_ws RX8 TX8 9, w ∈ wsX8_allStock := fun _ h => List.mem_cons_of_mem _ (List.mem_append_right _ h)
  have lk2 := hts (.fieldLink RX8 21 "ReadFromAnywhere$Tongue" "stocks" "[I") (List.mem_of_getElem? (i := 2) rfl)
  have L4 : ∀ (n4 : Nat) (x1 : Int32) (x2 : Int32), ∀ (H : Heap) (locs : List Loc) (ls : Array Slot), va_P (dC, dI) vwCl (zW_X8_allStock cI cC cS q_this q_this_stocks q_this_kinds q_this_sets q_this_weights q_this_readers q_this_eighths q_this_wishes v_this_words v_this_roads f_this_stocks) H → va_D A (zW_X8_allStock cI cC cS q_this q_this_stocks q_this_kinds q_this_sets q_this_weights q_this_readers q_this_eighths q_this_wishes v_this_words v_this_roads f_this_stocks) → va_S A s.heap H locs → lv_has ls 3 [(0, .ref q_this), (1, .int x1), (2, .int x2)] → lp_X8_allStock_4 N v_this_words f_this_stocks Φ n4 x1 x2 → W p l e (headSpec wsX8_allStock zr_X8_allStock).room s m ([.ref q_this] : List Value).toArray below meth c H locs 0 0 (MQ below (zQi (dC, dI) (zT cI cC cS) A (fun (r : Int32) (u : Unit) => Φ r) (fun u => (zW_X8_allStock cI cC cS q_this q_this_stocks q_this_kinds q_this_sets q_this_weights q_this_readers q_this_eighths q_this_wishes v_this_words v_this_roads f_this_stocks))) ([.ref q_this] : List Value).toArray s 0 0 A) (F0 m 4 ls []) := by
    intro n4
    induction n4 with
    | zero =>
      intro x1 x2 H locs ls hP hD hS hl hf
      exact absurd hf (by rw [lp_X8_allStock_4]; exact id)
    | succ n4 ih4 =>
      intro x1 x2 H locs ls hP hD hS hl hf
      rw [lp_X8_allStock_4] at hf
      refine lv_iload_n hx hb dX8_allStock_4 rfl (lv_at hl 2 rfl) ?_
      refine lv_aload_n hx hb dX8_allStock_5 rfl (lv_at hl 0 rfl) ?_
      refine va_get (D := (dC, dI)) (ci := 7) (v := .int v_this_words) (C := RX8) (T := TX8) (N := 9) hx hb hts inX8 hown hK hP 0 rfl rfl 4 (by decide) lk1 (fun _ h9 => h9) rfl dX8_allStock_6 ?_
      refine lv_icmp_ge (tgt := 27) hx hb dX8_allStock_9 (by decide) (fun c1 => ?_) (fun c1 => ?_)
      · replace hf := hf.1 c1
        refine lv_iload_n hx hb dX8_allStock_27 rfl (lv_at hl 1 rfl) ?_
        exact z_iret hx hb hr hlocks () hf hK hP hD hS dX8_allStock_28
      · replace hf := hf.2 c1
        refine lv_iload_n hx hb dX8_allStock_12 rfl (lv_at hl 1 rfl) ?_
        refine lv_aload_n hx hb dX8_allStock_13 rfl (lv_at hl 0 rfl) ?_
        refine va_get (D := (dC, dI)) (ci := 7) (v := .ref q_this_stocks) (C := RX8) (T := TX8) (N := 9) hx hb hts inX8 hown hK hP 0 rfl rfl 3 (by decide) lk2 (fun _ h9 => h9) rfl dX8_allStock_14 ?_
        refine lv_iload_n hx hb dX8_allStock_17 rfl (lv_at hl 2 rfl) ?_
        refine va_iald hx hb hK hP 1 0 rfl rfl hf.1 dX8_allStock_18 ?_
        replace hf := hf.2
        refine lv_iadd hx hb dX8_allStock_19 ?_
        refine lv_istore_n (lv' := [(1, .int (x1 + (f_this_stocks (Int32.toNatClampNeg x2)))), (0, .ref q_this), (2, .int x2)]) hx hb dX8_allStock_20 rfl hl (by decide) rfl (fun ls hl => ?_)
        refine lv_iinc (v := (x2 + 1)) (lv' := [(2, .int (x2 + 1)), (1, .int (x1 + (f_this_stocks (Int32.toNatClampNeg x2)))), (0, .ref q_this)]) hx hb dX8_allStock_21 hl (k := 2) rfl (by rfl) (by decide) rfl (fun ls hl => ?_)
        refine lv_goto (tgt := 4) hx hb dX8_allStock_24 (by decide) ?_
        exact ih4 (x1 + (f_this_stocks (Int32.toNatClampNeg x2))) (x2 + 1) _ _ _ hP hD hS (lv_sub hl [2, 1, 0] rfl) hf
  unfold wp_X8_allStock at hf
  refine lv_iconst (v := 0) hx hb dX8_allStock_0 (by decide) ?_
  refine lv_istore_n (lv' := [(1, .int 0), (0, .ref q_this)]) hx hb dX8_allStock_1 rfl hl (by decide) rfl (fun ls hl => ?_)
  refine lv_iconst (v := 0) hx hb dX8_allStock_2 (by decide) ?_
  refine lv_istore_n (lv' := [(2, .int 0), (1, .int 0), (0, .ref q_this)]) hx hb dX8_allStock_3 rfl hl (by decide) rfl (fun ls hl => ?_)
  exact L4  N 0 0 _ _ _ hP hD hS (lv_sub hl [2, 1, 0] rfl) hf
def wp_X8_beginOf (N : Nat) (x1 : Int32) (x2 : Int32) (f_this_eighths : Nat → Int32) (Φ : Int32 → Prop) : Prop := 
    (vp_in x1 6 ∧ Φ (((f_this_eighths (Int32.toNatClampNeg x1)) * x2) / 8))
abbrev zW_X8_beginOf (cI cC cS : ClassId) (q_this : Nat) (q_this_eighths : Nat) (q_this_kinds : Nat) (q_this_sets : Nat) (q_this_weights : Nat) (q_this_stocks : Nat) (q_this_readers : Nat) (q_this_wishes : Nat) (v_this_words : Int32) (v_this_roads : Int32) (f_this_eighths : Nat → Int32) : va_W := [(q_this, .inr (7, [.ref q_this_kinds, .ref q_this_sets, .ref q_this_weights, .ref q_this_stocks, .int v_this_words, .ref q_this_readers, .ref q_this_eighths, .ref q_this_wishes, .int v_this_roads])),
  (q_this_eighths, .inl (cI, 6, .inl f_this_eighths))]
abbrev zr_X8_beginOf : Room := { frames := 0, cells := 0, slots := 0, locals := 0 }
set_option maxHeartbeats 4000000 in
set_option maxRecDepth 100000 in
theorem c_X8_beginOf (l : Launch) (dC : Nat → ClassId) (dI : Nat → Nat → Nat) (cI cC cS : ClassId) (q_this : Nat) (q_this_eighths : Nat) (q_this_kinds : Nat) (q_this_sets : Nat) (q_this_weights : Nat) (q_this_stocks : Nat) (q_this_readers : Nat) (q_this_wishes : Nat) (sz : Nat) (v_this_words : Int32) (v_this_roads : Int32) (f_this_eighths : Nat → Int32) (x1 : Int32) (x2 : Int32) (N : Nat) (Φ : Int32 → Prop)  (hf : wp_X8_beginOf N x1 x2 f_this_eighths Φ) : Met l yX8_beginOf wsX8_beginOf zr_X8_beginOf (zPc (dC, dI) (zT cI cC cS) [.ref q_this, .int x1, .int x2] sz (zW_X8_beginOf cI cC cS q_this q_this_eighths q_this_kinds q_this_sets q_this_weights q_this_stocks q_this_readers q_this_wishes v_this_words v_this_roads f_this_eighths)) (zQi (dC, dI) (zT cI cC cS) (va_A (zW_X8_beginOf cI cC cS q_this q_this_eighths q_this_kinds q_this_sets q_this_weights q_this_stocks q_this_readers q_this_wishes v_this_words v_this_roads f_this_eighths) sz) (fun (r : Int32) (u : Unit) => Φ r) (fun u => (zW_X8_beginOf cI cC cS q_this q_this_eighths q_this_kinds q_this_sets q_this_weights q_this_stocks q_this_readers q_this_wishes v_this_words v_this_roads f_this_eighths))) 0 0 (va_A (zW_X8_beginOf cI cC cS q_this q_this_eighths q_this_kinds q_this_sets q_this_weights q_this_stocks q_this_readers q_this_wishes v_this_words v_this_roads f_this_eighths) sz) := by
  refine Met.ofW (cc := cX8_beginOf) (maxL := 3) (ret := (some .int)) (by decide) rfl ?_
  intro p e s m args below meth c s₁ B hml hv
  obtain ⟨rfl, hsz, hP, hK, hD0⟩ := hv
  have hx := B.exec
  have hb := B.bytes
  have hr := B.returns
  have hts := atoms_spec (ws := wsX8_beginOf) B.pre
  have hown : s.vm.findClass RX8 = some m.cls := findClass_of_methodNamed B.named
  have hlocks := B.notSynchronized
  subst hsz
  have hD := hD0.self (sz := s.heap.size)
  have hA : ∀ q : Nat, s.heap.size ≤ q → va_A (zW_X8_beginOf cI cC cS q_this q_this_eighths q_this_kinds q_this_sets q_this_weights q_this_stocks q_this_readers q_this_wishes v_this_words v_this_roads f_this_eighths) s.heap.size q := fun q h => Or.inr h
  generalize va_A (zW_X8_beginOf cI cC cS q_this q_this_eighths q_this_kinds q_this_sets q_this_weights q_this_stocks q_this_readers q_this_wishes v_this_words v_this_roads f_this_eighths) s.heap.size = A at hD hA ⊢
  have hS : va_S A s.heap s.heap [] := va_S.rf
  have hl := lv_entry ([.ref q_this, .int x1, .int x2]) (n := 3) (Nat.le_of_ble_eq_true rfl)
  rw [lg_entry_eq]
  generalize (lg_sl ([.ref q_this, .int x1, .int x2]) ++ List.replicate (3 - (lg_sl ([.ref q_this, .int x1, .int x2])).length) Slot.unset).toArray = ls at hl ⊢
  have hl : lv_has ls 3 [(0, .ref q_this), (1, .int x1), (2, .int x2)] := hl
  have lk1 := hts (.fieldLink RX8 31 "ReadFromAnywhere$Tongue" "eighths" "[I") (List.mem_of_getElem? (i := 1) rfl)
  have inX8 : ∀ w ∈ u_ws RX8 TX8 9, w ∈ wsX8_beginOf := fun _ h => List.mem_cons_of_mem _ (List.mem_append_right _ h)
  unfold wp_X8_beginOf at hf
  refine lv_aload_n hx hb dX8_beginOf_0 rfl (lv_at hl 0 rfl) ?_
  refine va_get (D := (dC, dI)) (ci := 7) (v := .ref q_this_eighths) (C := RX8) (T := TX8) (N := 9) hx hb hts inX8 hown hK hP 0 rfl rfl 6 (by decide) lk1 (fun _ h9 => h9) rfl dX8_beginOf_1 ?_
  refine lv_iload_n hx hb dX8_beginOf_4 rfl (lv_at hl 1 rfl) ?_
  refine va_iald hx hb hK hP 1 0 rfl rfl hf.1 dX8_beginOf_5 ?_
  replace hf := hf.2
  refine lv_iload_n hx hb dX8_beginOf_6 rfl (lv_at hl 2 rfl) ?_
  refine lv_imul hx hb dX8_beginOf_7 ?_
  refine lv_bipush (v := 8) hx hb dX8_beginOf_8 (by decide) ?_
  refine lv_idiv hx hb dX8_beginOf_10 (by decide) ?_
  exact z_iret hx hb hr hlocks () hf hK hP hD hS dX8_beginOf_11
def wp_X8_strideOf (N : Nat) (x0 : Int32) (x1 : Int32) (Φ : Int32 → Prop) : Prop := 
    ((x0 = 1 → Φ (x1 - 1)) ∧
     (¬ (x0 = 1) → ((x0 = 3 → ((1 ≤ x1 → (¬ (x1 = 0) ∧ Φ (2 - 2 / x1 * x1))) ∧
     (¬ (1 ≤ x1) → Φ 0))) ∧
     (¬ (x0 = 3) → Φ 1))))
abbrev zW_X8_strideOf (cI cC cS : ClassId)  : va_W := []
abbrev zr_X8_strideOf : Room := { frames := 0, cells := 0, slots := 0, locals := 0 }
set_option maxHeartbeats 4000000 in
set_option maxRecDepth 100000 in
theorem c_X8_strideOf (l : Launch) (dC : Nat → ClassId) (dI : Nat → Nat → Nat) (cI cC cS : ClassId)  (sz : Nat) (x0 : Int32) (x1 : Int32) (N : Nat) (Φ : Int32 → Prop)  (hf : wp_X8_strideOf N x0 x1 Φ) : Met l yX8_strideOf wsX8_strideOf zr_X8_strideOf (zPc (dC, dI) (zT cI cC cS) [.int x0, .int x1] sz (zW_X8_strideOf cI cC cS )) (zQi (dC, dI) (zT cI cC cS) (va_A (zW_X8_strideOf cI cC cS ) sz) (fun (r : Int32) (u : Unit) => Φ r) (fun u => (zW_X8_strideOf cI cC cS ))) 0 0 (va_A (zW_X8_strideOf cI cC cS ) sz) := by
  refine Met.ofW (cc := cX8_strideOf) (maxL := 2) (ret := (some .int)) (by decide) rfl ?_
  intro p e s m args below meth c s₁ B hml hv
  obtain ⟨rfl, hsz, hP, hK, hD0⟩ := hv
  have hx := B.exec
  have hb := B.bytes
  have hr := B.returns
  have hts := atoms_spec (ws := wsX8_strideOf) B.pre
  have hown : s.vm.findClass RX8 = some m.cls := findClass_of_methodNamed B.named
  have hlocks := B.notSynchronized
  subst hsz
  have hD := hD0.self (sz := s.heap.size)
  have hA : ∀ q : Nat, s.heap.size ≤ q → va_A (zW_X8_strideOf cI cC cS ) s.heap.size q := fun q h => Or.inr h
  generalize va_A (zW_X8_strideOf cI cC cS ) s.heap.size = A at hD hA ⊢
  have hS : va_S A s.heap s.heap [] := va_S.rf
  have hl := lv_entry ([.int x0, .int x1]) (n := 2) (Nat.le_of_ble_eq_true rfl)
  rw [lg_entry_eq]
  generalize (lg_sl ([.int x0, .int x1]) ++ List.replicate (2 - (lg_sl ([.int x0, .int x1])).length) Slot.unset).toArray = ls at hl ⊢
  have hl : lv_has ls 2 [(0, .int x0), (1, .int x1)] := hl
  unfold wp_X8_strideOf at hf
  refine lv_iload_n hx hb dX8_strideOf_0 rfl (lv_at hl 0 rfl) ?_
  refine lv_iconst (v := 1) hx hb dX8_strideOf_1 (by decide) ?_
  refine lv_icmp_ne (tgt := 9) hx hb dX8_strideOf_2 (by decide) (fun c1 => ?_) (fun c1 => ?_)
  · replace hf := hf.2 c1
    refine lv_iload_n hx hb dX8_strideOf_9 rfl (lv_at hl 0 rfl) ?_
    refine lv_iconst (v := 3) hx hb dX8_strideOf_10 (by decide) ?_
    refine lv_icmp_ne (tgt := 27) hx hb dX8_strideOf_11 (by decide) (fun c2 => ?_) (fun c2 => ?_)
    · replace hf := hf.2 c2
      refine lv_iconst (v := 1) hx hb dX8_strideOf_27 (by decide) ?_
      exact z_iret hx hb hr hlocks () hf hK hP hD hS dX8_strideOf_28
    · replace hf := hf.1 c2
      refine lv_iload_n hx hb dX8_strideOf_14 rfl (lv_at hl 1 rfl) ?_
      refine lv_iconst (v := 1) hx hb dX8_strideOf_15 (by decide) ?_
      refine lv_icmp_ge (tgt := 23) hx hb dX8_strideOf_16 (by decide) (fun c3 => ?_) (fun c3 => ?_)
      · replace hf := hf.1 c3
        refine lv_iconst (v := 2) hx hb dX8_strideOf_23 (by decide) ?_
        refine lv_iload_n hx hb dX8_strideOf_24 rfl (lv_at hl 1 rfl) ?_
        refine lv_irem hx hb dX8_strideOf_25 hf.1 ?_
        replace hf := hf.2
        exact z_iret hx hb hr hlocks () hf hK hP hD hS dX8_strideOf_26
      · replace hf := hf.2 c3
        refine lv_iconst (v := 0) hx hb dX8_strideOf_19 (by decide) ?_
        refine lv_goto (tgt := 26) hx hb dX8_strideOf_20 (by decide) ?_
        exact z_iret hx hb hr hlocks () hf hK hP hD hS dX8_strideOf_26
  · replace hf := hf.1 c1
    refine lv_iload_n hx hb dX8_strideOf_5 rfl (lv_at hl 1 rfl) ?_
    refine lv_iconst (v := 1) hx hb dX8_strideOf_6 (by decide) ?_
    refine lv_isub hx hb dX8_strideOf_7 ?_
    exact z_iret hx hb hr hlocks () hf hK hP hD hS dX8_strideOf_8
