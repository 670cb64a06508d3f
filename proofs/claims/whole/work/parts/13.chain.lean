def lp_X0_isBalanced_56 (N : Nat) (f_this_behind : Nat → Int32) (Φ : Int32 → (Nat → Int32) → Prop) : Nat → Int32 → Prop
  | 0, _ => False
  | n + 1, x2 => 
    ((6 ≤ x2 → Φ 1 f_this_behind) ∧
     (¬ (6 ≤ x2) → (vp_in x2 6 ∧ (((f_this_behind (Int32.toNatClampNeg x2)) = 0 → (lp_X0_isBalanced_56 N f_this_behind Φ n) (x2 + 1)) ∧
     (¬ ((f_this_behind (Int32.toNatClampNeg x2)) = 0) → Φ 0 f_this_behind)))))
def ex_X0_isBalanced_54 (N : Nat) (f_this_behind : Nat → Int32) (v_p1_many : Int32) (f_p1_ones : Nat → Int32) (f_p1_others : Nat → Int32) (Φ : Int32 → (Nat → Int32) → Prop) : Prop := 
    lp_X0_isBalanced_56 N f_this_behind Φ N 0
def lp_X0_isBalanced_10 (N : Nat) (v_p1_many : Int32) (f_p1_ones : Nat → Int32) (f_p1_others : Nat → Int32) (Φ : Int32 → (Nat → Int32) → Prop) (k54 : (Nat → Int32) → Prop) : Nat → Int32 → (Nat → Int32) → Prop
  | 0, _, _ => False
  | n + 1, x2, f_this_behind => 
    ((v_p1_many ≤ x2 → k54 f_this_behind) ∧
     (¬ (v_p1_many ≤ x2) → (vp_in x2 12 ∧ (vp_in (f_p1_ones (Int32.toNatClampNeg x2)) 6 ∧ (vp_in (f_p1_ones (Int32.toNatClampNeg x2)) 6 ∧ (vp_in x2 12 ∧ (vp_in (f_p1_others (Int32.toNatClampNeg x2)) 6 ∧ (vp_in (f_p1_others (Int32.toNatClampNeg x2)) 6 ∧ (lp_X0_isBalanced_10 N v_p1_many f_p1_ones f_p1_others Φ k54 n) (x2 + 1) (upd (upd f_this_behind (Int32.toNatClampNeg (f_p1_ones (Int32.toNatClampNeg x2))) ((f_this_behind (Int32.toNatClampNeg (f_p1_ones (Int32.toNatClampNeg x2)))) + 1)) (Int32.toNatClampNeg (f_p1_others (Int32.toNatClampNeg x2))) (((upd f_this_behind (Int32.toNatClampNeg (f_p1_ones (Int32.toNatClampNeg x2))) ((f_this_behind (Int32.toNatClampNeg (f_p1_ones (Int32.toNatClampNeg x2)))) + 1)) (Int32.toNatClampNeg (f_p1_others (Int32.toNatClampNeg x2)))) - 1))))))))))
def wp_X0_isBalanced (N : Nat) (f_this_behind : Nat → Int32) (v_p1_many : Int32) (f_p1_ones : Nat → Int32) (f_p1_others : Nat → Int32) (Φ : Int32 → (Nat → Int32) → Prop) : Prop := 
    wp_J7_fill_53178 N 6 0 f_this_behind (fun o1_0 => 
     lp_X0_isBalanced_10 N v_p1_many f_p1_ones f_p1_others Φ (fun f_this_behindh10 => ex_X0_isBalanced_54 N f_this_behindh10 v_p1_many f_p1_ones f_p1_others Φ) N 0 o1_0)
abbrev zW_X0_isBalanced (cI cC cS : ClassId) (q_this : Nat) (q_this_behind : Nat) (q_p1 : Nat) (q_p1_ones : Nat) (q_p1_others : Nat) (q_this_ring : Nat) (f_this_behind : Nat → Int32) (v_p1_many : Int32) (f_p1_ones : Nat → Int32) (f_p1_others : Nat → Int32) : va_W := [(q_this, .inr (0, [.ref q_this_ring, .ref q_this_behind])),
  (q_this_behind, .inl (cI, 6, .inl f_this_behind)),
  (q_p1, .inr (3, [.ref q_p1_ones, .ref q_p1_others, .int v_p1_many])),
  (q_p1_ones, .inl (cI, 12, .inl f_p1_ones)),
  (q_p1_others, .inl (cI, 12, .inl f_p1_others))]
abbrev zr_X0_isBalanced : Room := { frames := 1, cells := 0, slots := 0, locals := 23 }
set_option maxHeartbeats 4000000 in
set_option maxRecDepth 100000 in
theorem c_X0_isBalanced (l : Launch) (dC : Nat → ClassId) (dI : Nat → Nat → Nat) (cI cC cS : ClassId) (q_this : Nat) (q_this_behind : Nat) (q_p1 : Nat) (q_p1_ones : Nat) (q_p1_others : Nat) (q_this_ring : Nat) (sz : Nat) (f_this_behind : Nat → Int32) (v_p1_many : Int32) (f_p1_ones : Nat → Int32) (f_p1_others : Nat → Int32) (N : Nat) (Φ : Int32 → (Nat → Int32) → Prop)  (hf : wp_X0_isBalanced N f_this_behind v_p1_many f_p1_ones f_p1_others Φ) : Met l yX0_isBalanced wsX0_isBalanced zr_X0_isBalanced (zPc (dC, dI) (zT cI cC cS) [.ref q_this, .ref q_p1] sz (zW_X0_isBalanced cI cC cS q_this q_this_behind q_p1 q_p1_ones q_p1_others q_this_ring f_this_behind v_p1_many f_p1_ones f_p1_others)) (zQi (dC, dI) (zT cI cC cS) (va_A (zW_X0_isBalanced cI cC cS q_this q_this_behind q_p1 q_p1_ones q_p1_others q_this_ring f_this_behind v_p1_many f_p1_ones f_p1_others) sz) (fun (r : Int32) (u : (Nat → Int32)) => Φ r u) (fun u => (zW_X0_isBalanced cI cC cS q_this q_this_behind q_p1 q_p1_ones q_p1_others q_this_ring u v_p1_many f_p1_ones f_p1_others))) 0 0 (va_A (zW_X0_isBalanced cI cC cS q_this q_this_behind q_p1 q_p1_ones q_p1_others q_this_ring f_this_behind v_p1_many f_p1_ones f_p1_others) sz) := by
  refine Met.ofW (cc := cX0_isBalanced) (maxL := 3) (ret := (some .boolean)) (by decide) rfl ?_
  intro p e s m args below meth c s₁ B hml hv
  obtain ⟨rfl, hsz, hP, hK, hD0⟩ := hv
  have hx := B.exec
  have hb := B.bytes
  have hr := B.returns
  have hts := atoms_spec (ws := wsX0_isBalanced) B.pre
  have hown : s.vm.findClass RX0 = some m.cls := findClass_of_methodNamed B.named
  have hlocks := B.notSynchronized
  subst hsz
  have hD := hD0.self (sz := s.heap.size)
  have hA : ∀ q : Nat, s.heap.size ≤ q → va_A (zW_X0_isBalanced cI cC cS q_this q_this_behind q_p1 q_p1_ones q_p1_others q_this_ring f_this_behind v_p1_many f_p1_ones f_p1_others) s.heap.size q := fun q h => Or.inr h
  generalize va_A (zW_X0_isBalanced cI cC cS q_this q_this_behind q_p1 q_p1_ones q_p1_others q_this_ring f_this_behind v_p1_many f_p1_ones f_p1_others) s.heap.size = A at hD hA ⊢
  have hS : va_S A s.heap s.heap [] := va_S.rf
  have hl := lv_entry ([.ref q_this, .ref q_p1]) (n := 3) (Nat.le_of_ble_eq_true rfl)
  rw [lg_entry_eq]
  generalize (lg_sl ([.ref q_this, .ref q_p1]) ++ List.replicate (3 - (lg_sl ([.ref q_this, .ref q_p1])).length) Slot.unset).toArray = ls at hl ⊢
  have hl : lv_has ls 3 [(0, .ref q_this), (1, .ref q_p1)] := hl
  have lk1 := hts (.fieldLink RX0 15 "ReadFromAnywhere$Chain" "behind" "[I") (List.mem_of_getElem? (i := 1) rfl)
  have inX0 : ∀ w ∈ u_ws RX0 TX0 2, w ∈ wsX0_isBalanced := fun _ h => List.mem_cons_of_mem _ (List.mem_append_left _ (List.mem_append_right _ h))
  have lk2 := hts (.fieldLink RX0 18 "ReadFromAnywhere$Pairs" "many" "I") (List.mem_of_getElem? (i := 2) rfl)
  have inX3 : ∀ w ∈ u_ws RX3 TX3 3, w ∈ wsX0_isBalanced := fun _ h => List.mem_cons_of_mem _ (List.mem_append_right _ h)
  have lk3 := hts (.fieldLink RX0 34 "ReadFromAnywhere$Pairs" "ones" "[I") (List.mem_of_getElem? (i := 3) rfl)
  have lk4 := hts (.fieldLink RX0 37 "ReadFromAnywhere$Pairs" "others" "[I") (List.mem_of_getElem? (i := 4) rfl)
  have L56 : ∀ (f_this_behind : Nat → Int32), ∀ (n56 : Nat) (x2 : Int32), ∀ (H : Heap) (locs : List Loc) (ls : Array Slot), va_P (dC, dI) vwCl (zW_X0_isBalanced cI cC cS q_this q_this_behind q_p1 q_p1_ones q_p1_others q_this_ring f_this_behind v_p1_many f_p1_ones f_p1_others) H → va_D A (zW_X0_isBalanced cI cC cS q_this q_this_behind q_p1 q_p1_ones q_p1_others q_this_ring f_this_behind v_p1_many f_p1_ones f_p1_others) → va_S A s.heap H locs → lv_has ls 3 [(0, .ref q_this), (2, .int x2)] → lp_X0_isBalanced_56 N f_this_behind Φ n56 x2 → W p l e (headSpec wsX0_isBalanced zr_X0_isBalanced).room s m ([.ref q_this, .ref q_p1] : List Value).toArray below meth c H locs 0 0 (MQ below (zQi (dC, dI) (zT cI cC cS) A (fun (r : Int32) (u : (Nat → Int32)) => Φ r u) (fun u => (zW_X0_isBalanced cI cC cS q_this q_this_behind q_p1 q_p1_ones q_p1_others q_this_ring u v_p1_many f_p1_ones f_p1_others))) ([.ref q_this, .ref q_p1] : List Value).toArray s 0 0 A) (F0 m 56 ls []) := by
    intro f_this_behind
    intro n56
    induction n56 with
    | zero =>
      intro x2 H locs ls hP hD hS hl hf
      exact absurd hf (by rw [lp_X0_isBalanced_56]; exact id)
    | succ n56 ih56 =>
      intro x2 H locs ls hP hD hS hl hf
      rw [lp_X0_isBalanced_56] at hf
      refine lv_iload_n hx hb dX0_isBalanced_56 rfl (lv_at hl 1 rfl) ?_
      refine lv_bipush (v := 6) hx hb dX0_isBalanced_57 (by decide) ?_
      refine lv_icmp_ge (tgt := 79) hx hb dX0_isBalanced_59 (by decide) (fun c1 => ?_) (fun c1 => ?_)
      · replace hf := hf.1 c1
        refine lv_iconst (v := 1) hx hb dX0_isBalanced_79 (by decide) ?_
        exact z_zret hx hb hr rfl hlocks (f_this_behind) hf hK hP hD hS dX0_isBalanced_80
      · replace hf := hf.2 c1
        refine lv_aload_n hx hb dX0_isBalanced_62 rfl (lv_at hl 0 rfl) ?_
        refine va_get (D := (dC, dI)) (ci := 0) (v := .ref q_this_behind) (C := RX0) (T := TX0) (N := 2) hx hb hts inX0 hown hK hP 0 rfl rfl 1 (by decide) lk1 (fun _ h9 => h9) rfl dX0_isBalanced_63 ?_
        refine lv_iload_n hx hb dX0_isBalanced_66 rfl (lv_at hl 1 rfl) ?_
        refine va_iald hx hb hK hP 1 0 rfl rfl hf.1 dX0_isBalanced_67 ?_
        replace hf := hf.2
        refine lv_if_eq (tgt := 73) hx hb dX0_isBalanced_68 (by decide) (fun c2 => ?_) (fun c2 => ?_)
        · replace hf := hf.1 c2
          refine lv_iinc (v := (x2 + 1)) (lv' := [(2, .int (x2 + 1)), (0, .ref q_this)]) hx hb dX0_isBalanced_73 hl (k := 1) rfl (by rfl) (by decide) rfl (fun ls hl => ?_)
          refine lv_goto (tgt := 56) hx hb dX0_isBalanced_76 (by decide) ?_
          exact ih56 (x2 + 1) _ _ _ hP hD hS (lv_sub hl [1, 0] rfl) hf
        · replace hf := hf.2 c2
          refine lv_iconst (v := 0) hx hb dX0_isBalanced_71 (by decide) ?_
          exact z_zret hx hb hr rfl hlocks (f_this_behind) hf hK hP hD hS dX0_isBalanced_72
  have E54 : ∀ (f_this_behind : Nat → Int32), ∀ (H : Heap) (locs : List Loc) (ls : Array Slot), va_P (dC, dI) vwCl (zW_X0_isBalanced cI cC cS q_this q_this_behind q_p1 q_p1_ones q_p1_others q_this_ring f_this_behind v_p1_many f_p1_ones f_p1_others) H → va_D A (zW_X0_isBalanced cI cC cS q_this q_this_behind q_p1 q_p1_ones q_p1_others q_this_ring f_this_behind v_p1_many f_p1_ones f_p1_others) → va_S A s.heap H locs → lv_has ls 3 [(0, .ref q_this)] → ex_X0_isBalanced_54 N f_this_behind v_p1_many f_p1_ones f_p1_others Φ → W p l e (headSpec wsX0_isBalanced zr_X0_isBalanced).room s m ([.ref q_this, .ref q_p1] : List Value).toArray below meth c H locs 0 0 (MQ below (zQi (dC, dI) (zT cI cC cS) A (fun (r : Int32) (u : (Nat → Int32)) => Φ r u) (fun u => (zW_X0_isBalanced cI cC cS q_this q_this_behind q_p1 q_p1_ones q_p1_others q_this_ring u v_p1_many f_p1_ones f_p1_others))) ([.ref q_this, .ref q_p1] : List Value).toArray s 0 0 A) (F0 m 54 ls []) := by
    intro f_this_behind H locs ls hP hD hS hl hf
    unfold ex_X0_isBalanced_54 at hf
    refine lv_iconst (v := 0) hx hb dX0_isBalanced_54 (by decide) ?_
    refine lv_istore_n (lv' := [(2, .int 0), (0, .ref q_this)]) hx hb dX0_isBalanced_55 rfl hl (by decide) rfl (fun ls hl => ?_)
    exact L56 f_this_behind N 0 _ _ _ hP hD hS (lv_sub hl [1, 0] rfl) hf
  have L10 : ∀ (n10 : Nat) (x2 : Int32) (f_this_behind : Nat → Int32), ∀ (H : Heap) (locs : List Loc) (ls : Array Slot), va_P (dC, dI) vwCl (zW_X0_isBalanced cI cC cS q_this q_this_behind q_p1 q_p1_ones q_p1_others q_this_ring f_this_behind v_p1_many f_p1_ones f_p1_others) H → va_D A (zW_X0_isBalanced cI cC cS q_this q_this_behind q_p1 q_p1_ones q_p1_others q_this_ring f_this_behind v_p1_many f_p1_ones f_p1_others) → va_S A s.heap H locs → lv_has ls 3 [(0, .ref q_this), (1, .ref q_p1), (2, .int x2)] → lp_X0_isBalanced_10 N v_p1_many f_p1_ones f_p1_others Φ (fun f_this_behindh10 => ex_X0_isBalanced_54 N f_this_behindh10 v_p1_many f_p1_ones f_p1_others Φ) n10 x2 f_this_behind → W p l e (headSpec wsX0_isBalanced zr_X0_isBalanced).room s m ([.ref q_this, .ref q_p1] : List Value).toArray below meth c H locs 0 0 (MQ below (zQi (dC, dI) (zT cI cC cS) A (fun (r : Int32) (u : (Nat → Int32)) => Φ r u) (fun u => (zW_X0_isBalanced cI cC cS q_this q_this_behind q_p1 q_p1_ones q_p1_others q_this_ring u v_p1_many f_p1_ones f_p1_others))) ([.ref q_this, .ref q_p1] : List Value).toArray s 0 0 A) (F0 m 10 ls []) := by
    intro n10
    induction n10 with
    | zero =>
      intro x2 f_this_behind H locs ls hP hD hS hl hf
      exact absurd hf (by rw [lp_X0_isBalanced_10]; exact id)
    | succ n10 ih10 =>
      intro x2 f_this_behind H locs ls hP hD hS hl hf
      rw [lp_X0_isBalanced_10] at hf
      refine lv_iload_n hx hb dX0_isBalanced_10 rfl (lv_at hl 2 rfl) ?_
      refine lv_aload_n hx hb dX0_isBalanced_11 rfl (lv_at hl 1 rfl) ?_
      refine va_get (D := (dC, dI)) (ci := 3) (v := .int v_p1_many) (C := RX3) (T := TX3) (N := 3) hx hb hts inX3 hown hK hP 2 rfl rfl 2 (by decide) lk2 (fun _ h9 => h9) rfl dX0_isBalanced_12 ?_
      refine lv_icmp_ge (tgt := 54) hx hb dX0_isBalanced_15 (by decide) (fun c3 => ?_) (fun c3 => ?_)
      · replace hf := hf.1 c3
        exact E54 f_this_behind _ _ _ hP hD hS (lv_sub hl [0] rfl) hf
      · replace hf := hf.2 c3
        refine lv_aload_n hx hb dX0_isBalanced_18 rfl (lv_at hl 0 rfl) ?_
        refine va_get (D := (dC, dI)) (ci := 0) (v := .ref q_this_behind) (C := RX0) (T := TX0) (N := 2) hx hb hts inX0 hown hK hP 0 rfl rfl 1 (by decide) lk1 (fun _ h9 => h9) rfl dX0_isBalanced_19 ?_
        refine lv_aload_n hx hb dX0_isBalanced_22 rfl (lv_at hl 1 rfl) ?_
        refine va_get (D := (dC, dI)) (ci := 3) (v := .ref q_p1_ones) (C := RX3) (T := TX3) (N := 3) hx hb hts inX3 hown hK hP 2 rfl rfl 0 (by decide) lk3 (fun _ h9 => h9) rfl dX0_isBalanced_23 ?_
        refine lv_iload_n hx hb dX0_isBalanced_26 rfl (lv_at hl 2 rfl) ?_
        refine va_iald hx hb hK hP 3 0 rfl rfl hf.1 dX0_isBalanced_27 ?_
        replace hf := hf.2
        refine lv_dup2_11 hx hb dX0_isBalanced_28 rfl rfl ?_
        refine va_iald hx hb hK hP 1 0 rfl rfl hf.1 dX0_isBalanced_29 ?_
        replace hf := hf.2
        refine lv_iconst (v := 1) hx hb dX0_isBalanced_30 (by decide) ?_
        refine lv_iadd hx hb dX0_isBalanced_31 ?_
        refine va_iast hx hb hK hP hD hS 1 0 rfl rfl hf.1 dX0_isBalanced_32 (fun H locs hP hD hS => ?_)
        replace hf := hf.2
        have hP : va_P (dC, dI) vwCl (zW_X0_isBalanced cI cC cS q_this q_this_behind q_p1 q_p1_ones q_p1_others q_this_ring (upd f_this_behind (Int32.toNatClampNeg (f_p1_ones (Int32.toNatClampNeg x2))) ((f_this_behind (Int32.toNatClampNeg (f_p1_ones (Int32.toNatClampNeg x2)))) + 1)) v_p1_many f_p1_ones f_p1_others) H := hP
        have hD : va_D A (zW_X0_isBalanced cI cC cS q_this q_this_behind q_p1 q_p1_ones q_p1_others q_this_ring (upd f_this_behind (Int32.toNatClampNeg (f_p1_ones (Int32.toNatClampNeg x2))) ((f_this_behind (Int32.toNatClampNeg (f_p1_ones (Int32.toNatClampNeg x2)))) + 1)) v_p1_many f_p1_ones f_p1_others) := hD
        refine lv_aload_n hx hb dX0_isBalanced_33 rfl (lv_at hl 0 rfl) ?_
        refine va_get (D := (dC, dI)) (ci := 0) (v := .ref q_this_behind) (C := RX0) (T := TX0) (N := 2) hx hb hts inX0 hown hK hP 0 rfl rfl 1 (by decide) lk1 (fun _ h9 => h9) rfl dX0_isBalanced_34 ?_
        refine lv_aload_n hx hb dX0_isBalanced_37 rfl (lv_at hl 1 rfl) ?_
        refine va_get (D := (dC, dI)) (ci := 3) (v := .ref q_p1_others) (C := RX3) (T := TX3) (N := 3) hx hb hts inX3 hown hK hP 2 rfl rfl 1 (by decide) lk4 (fun _ h9 => h9) rfl dX0_isBalanced_38 ?_
        refine lv_iload_n hx hb dX0_isBalanced_41 rfl (lv_at hl 2 rfl) ?_
        refine va_iald hx hb hK hP 4 0 rfl rfl hf.1 dX0_isBalanced_42 ?_
        replace hf := hf.2
        refine lv_dup2_11 hx hb dX0_isBalanced_43 rfl rfl ?_
        refine va_iald hx hb hK hP 1 0 rfl rfl hf.1 dX0_isBalanced_44 ?_
        replace hf := hf.2
        refine lv_iconst (v := 1) hx hb dX0_isBalanced_45 (by decide) ?_
        refine lv_isub hx hb dX0_isBalanced_46 ?_
        refine va_iast hx hb hK hP hD hS 1 0 rfl rfl hf.1 dX0_isBalanced_47 (fun H locs hP hD hS => ?_)
        replace hf := hf.2
        have hP : va_P (dC, dI) vwCl (zW_X0_isBalanced cI cC cS q_this q_this_behind q_p1 q_p1_ones q_p1_others q_this_ring (upd (upd f_this_behind (Int32.toNatClampNeg (f_p1_ones (Int32.toNatClampNeg x2))) ((f_this_behind (Int32.toNatClampNeg (f_p1_ones (Int32.toNatClampNeg x2)))) + 1)) (Int32.toNatClampNeg (f_p1_others (Int32.toNatClampNeg x2))) (((upd f_this_behind (Int32.toNatClampNeg (f_p1_ones (Int32.toNatClampNeg x2))) ((f_this_behind (Int32.toNatClampNeg (f_p1_ones (Int32.toNatClampNeg x2)))) + 1)) (Int32.toNatClampNeg (f_p1_others (Int32.toNatClampNeg x2)))) - 1)) v_p1_many f_p1_ones f_p1_others) H := hP
        have hD : va_D A (zW_X0_isBalanced cI cC cS q_this q_this_behind q_p1 q_p1_ones q_p1_others q_this_ring (upd (upd f_this_behind (Int32.toNatClampNeg (f_p1_ones (Int32.toNatClampNeg x2))) ((f_this_behind (Int32.toNatClampNeg (f_p1_ones (Int32.toNatClampNeg x2)))) + 1)) (Int32.toNatClampNeg (f_p1_others (Int32.toNatClampNeg x2))) (((upd f_this_behind (Int32.toNatClampNeg (f_p1_ones (Int32.toNatClampNeg x2))) ((f_this_behind (Int32.toNatClampNeg (f_p1_ones (Int32.toNatClampNeg x2)))) + 1)) (Int32.toNatClampNeg (f_p1_others (Int32.toNatClampNeg x2)))) - 1)) v_p1_many f_p1_ones f_p1_others) := hD
        refine lv_iinc (v := (x2 + 1)) (lv' := [(2, .int (x2 + 1)), (0, .ref q_this), (1, .ref q_p1)]) hx hb dX0_isBalanced_48 hl (k := 2) rfl (by rfl) (by decide) rfl (fun ls hl => ?_)
        refine lv_goto (tgt := 10) hx hb dX0_isBalanced_51 (by decide) ?_
        exact ih10 (x2 + 1) (upd (upd f_this_behind (Int32.toNatClampNeg (f_p1_ones (Int32.toNatClampNeg x2))) ((f_this_behind (Int32.toNatClampNeg (f_p1_ones (Int32.toNatClampNeg x2)))) + 1)) (Int32.toNatClampNeg (f_p1_others (Int32.toNatClampNeg x2))) (((upd f_this_behind (Int32.toNatClampNeg (f_p1_ones (Int32.toNatClampNeg x2))) ((f_this_behind (Int32.toNatClampNeg (f_p1_ones (Int32.toNatClampNeg x2)))) + 1)) (Int32.toNatClampNeg (f_p1_others (Int32.toNatClampNeg x2)))) - 1)) _ _ _ hP hD hS (lv_sub hl [1, 2, 0] rfl) hf
  unfold wp_X0_isBalanced at hf
  refine lv_aload_n hx hb dX0_isBalanced_0 rfl (lv_at hl 0 rfl) ?_
  refine va_get (D := (dC, dI)) (ci := 0) (v := .ref q_this_behind) (C := RX0) (T := TX0) (N := 2) hx hb hts inX0 hown hK hP 0 rfl rfl 1 (by decide) lk1 (fun _ h9 => h9) rfl dX0_isBalanced_1 ?_
  refine lv_iconst (v := 0) hx hb dX0_isBalanced_4 (by decide) ?_
  refine z_Sv (n := 2) (As := [.ref q_this_behind, .int 0]) (rest := []) ⟨hx, hb, hml, hown, hts⟩ (c_J7_fill_53178 l dC dI cI cC cS q_this_behind _ 6 f_this_behind 0 N _  hf) gX0_isBalanced_J7_fill_53178 rfl rfl rfl (by decide +kernel) ⟨Nat.le_of_ble_eq_true rfl, Nat.le_of_ble_eq_true rfl⟩ hK hP hD hS hA rfl hl.1 rfl (Nat.le_of_ble_eq_true rfl) dX0_isBalanced_5 ⟨Nat.zero_le _, Nat.zero_le _⟩ [1] [0, 2, 3, 4] (([(q_this, .inr (0, [.ref q_this_ring, .ref q_this_behind])), (q_p1, .inr (3, [.ref q_p1_ones, .ref q_p1_others, .int v_p1_many])), (q_p1_ones, .inl (cI, 12, .inl f_p1_ones)), (q_p1_others, .inl (cI, 12, .inl f_p1_others))] : va_W)) rfl rfl (by decide) (by decide) (by decide) (fun u => (zW_X0_isBalanced cI cC cS q_this q_this_behind q_p1 q_p1_ones q_p1_others q_this_ring u v_p1_many f_p1_ones f_p1_others)) [0, 4, 1, 2, 3] (fun u => rfl) (by decide) (fun u1 H locs hf hP hD hS => ?_)
  have hP : va_P (dC, dI) vwCl (zW_X0_isBalanced cI cC cS q_this q_this_behind q_p1 q_p1_ones q_p1_others q_this_ring u1 v_p1_many f_p1_ones f_p1_others) H := hP
  have hD : va_D A (zW_X0_isBalanced cI cC cS q_this q_this_behind q_p1 q_p1_ones q_p1_others q_this_ring u1 v_p1_many f_p1_ones f_p1_others) := hD
  refine lv_iconst (v := 0) hx hb dX0_isBalanced_8 (by decide) ?_
  refine lv_istore_n (lv' := [(2, .int 0), (0, .ref q_this), (1, .ref q_p1)]) hx hb dX0_isBalanced_9 rfl hl (by decide) rfl (fun ls hl => ?_)
  exact L10  N 0 u1 _ _ _ hP hD hS (lv_sub hl [1, 2, 0] rfl) hf
def lp_X0_goesOn_32 (N : Nat) (rc : Int32 → Int32 → Int32 → (Nat → Int32) → (Nat → Int32) → (Int32 → (Nat → Int32) → (Nat → Int32) → Prop) → Prop) (x2 : Int32) (x3 : Int32) (x4 : Int32) (Φ : Int32 → (Nat → Int32) → (Nat → Int32) → Prop) : Nat → Int32 → (Nat → Int32) → (Nat → Int32) → Prop
  | 0, _, _, _ => False
  | n + 1, x5, f_p0, f_p1 => 
    ((6 ≤ x5 → Φ 0 f_p0 f_p1) ∧
     (¬ (6 ≤ x5) → (vp_in x2 6 ∧ (((((f_p1 (Int32.toNatClampNeg x2)) >>> (x5 &&& 31)) &&& 1) = 1 → (vp_in x2 6 ∧ (vp_in x2 6 ∧ rc x5 (x3 + 1) x4 f_p0 (upd f_p1 (Int32.toNatClampNeg x2) ((f_p1 (Int32.toNatClampNeg x2)) ^^^ (1 <<< (x5 &&& 31)))) (fun r3 o3_0 o3_1 => 
     ((r3 = 0 → (vp_in x2 6 ∧ (vp_in x2 6 ∧ (lp_X0_goesOn_32 N rc x2 x3 x4 Φ n) (x5 + 1) o3_0 (upd o3_1 (Int32.toNatClampNeg x2) ((o3_1 (Int32.toNatClampNeg x2)) ^^^ (1 <<< (x5 &&& 31))))))) ∧
     (¬ (r3 = 0) → Φ 1 o3_0 o3_1)))))) ∧
     (¬ ((((f_p1 (Int32.toNatClampNeg x2)) >>> (x5 &&& 31)) &&& 1) = 1) → (lp_X0_goesOn_32 N rc x2 x3 x4 Φ n) (x5 + 1) f_p0 f_p1)))))
def wp_X0_goesOn (N : Nat) : Nat → Int32 → Int32 → Int32 → (Nat → Int32) → (Nat → Int32) → (Int32 → (Nat → Int32) → (Nat → Int32) → Prop) → Prop
  | 0, _, _, _, _, _, _ => False
  | dd + 1, x2, x3, x4, f_p0, f_p1, Φ => 
    ((x4 ≤ x3 → ((x2 = (f_p0 (Int32.toNatClampNeg 0)) → Φ 1 f_p0 f_p1) ∧
     (¬ (x2 = (f_p0 (Int32.toNatClampNeg 0))) → Φ 0 f_p0 f_p1))) ∧
     (¬ (x4 ≤ x3) → ((x3 < 12 → (vp_in x3 12 ∧ lp_X0_goesOn_32 N (wp_X0_goesOn N dd) x2 x3 x4 Φ N 0 (upd f_p0 (Int32.toNatClampNeg x3) x2) f_p1)) ∧
     (¬ (x3 < 12) → ((x2 = (f_p0 (Int32.toNatClampNeg 0)) → Φ 1 f_p0 f_p1) ∧
     (¬ (x2 = (f_p0 (Int32.toNatClampNeg 0))) → Φ 0 f_p0 f_p1))))))
abbrev zW_X0_goesOn (cI cC cS : ClassId) (q_p0 : Nat) (q_p1 : Nat) (f_p0 : Nat → Int32) (f_p1 : Nat → Int32) : va_W := [(q_p0, .inl (cI, 12, .inl f_p0)),
  (q_p1, .inl (cI, 6, .inl f_p1))]
abbrev zr_X0_goesOn (d : Nat) : Room := { frames := d, cells := 0, slots := 0, locals := 35 * d }
set_option maxHeartbeats 4000000 in
set_option maxRecDepth 100000 in
theorem c_X0_goesOn (l : Launch) (dC : Nat → ClassId) (dI : Nat → Nat → Nat) (cI cC cS : ClassId) (N : Nat) : ∀ (d : Nat) (q_p0 : Nat) (q_p1 : Nat) (sz : Nat) (f_p0 : Nat → Int32) (f_p1 : Nat → Int32) (x2 : Int32) (x3 : Int32) (x4 : Int32) (Φ : Int32 → (Nat → Int32) → (Nat → Int32) → Prop), wp_X0_goesOn N d x2 x3 x4 f_p0 f_p1 Φ → Met l yX0_goesOn wsX0_goesOn (zr_X0_goesOn d) (zPc (dC, dI) (zT cI cC cS) [.ref q_p0, .ref q_p1, .int x2, .int x3, .int x4] sz (zW_X0_goesOn cI cC cS q_p0 q_p1 f_p0 f_p1)) (zQi (dC, dI) (zT cI cC cS) (va_A (zW_X0_goesOn cI cC cS q_p0 q_p1 f_p0 f_p1) sz) (fun (r : Int32) (u : (Nat → Int32) × (Nat → Int32)) => Φ r u.1 u.2) (fun u => (zW_X0_goesOn cI cC cS q_p0 q_p1 u.1 u.2))) 0 0 (va_A (zW_X0_goesOn cI cC cS q_p0 q_p1 f_p0 f_p1) sz) := by
  intro d
  induction d with
  | zero =>
    intro _ _ _ _ _ _ _ _ _ hf
    exact absurd hf (by rw [wp_X0_goesOn]; exact id)
  | succ d ihd =>
    intro q_p0 q_p1 sz f_p0 f_p1 x2 x3 x4 Φ hf
    refine Met.ofW (cc := cX0_goesOn) (maxL := 6) (ret := (some .boolean)) (by decide) rfl ?_
    intro p e s m args below meth c s₁ B hml hv
    obtain ⟨rfl, hsz, hP, hK, hD0⟩ := hv
    have hx := B.exec
    have hb := B.bytes
    have hr := B.returns
    have hts := atoms_spec (ws := wsX0_goesOn) B.pre
    have hown : s.vm.findClass RX0 = some m.cls := findClass_of_methodNamed B.named
    have hlocks := B.notSynchronized
    subst hsz
    have hD := hD0.self (sz := s.heap.size)
    have hA : ∀ q : Nat, s.heap.size ≤ q → va_A (zW_X0_goesOn cI cC cS q_p0 q_p1 f_p0 f_p1) s.heap.size q := fun q h => Or.inr h
    generalize va_A (zW_X0_goesOn cI cC cS q_p0 q_p1 f_p0 f_p1) s.heap.size = A at hD hA ⊢
    have hS : va_S A s.heap s.heap [] := va_S.rf
    have hl := lv_entry ([.ref q_p0, .ref q_p1, .int x2, .int x3, .int x4]) (n := 6) (Nat.le_of_ble_eq_true rfl)
    rw [lg_entry_eq]
    generalize (lg_sl ([.ref q_p0, .ref q_p1, .int x2, .int x3, .int x4]) ++ List.replicate (6 - (lg_sl ([.ref q_p0, .ref q_p1, .int x2, .int x3, .int x4])).length) Slot.unset).toArray = ls at hl ⊢
    have hl : lv_has ls 6 [(0, .ref q_p0), (1, .ref q_p1), (2, .int x2), (3, .int x3), (4, .int x4)] := hl
    have L32 : ∀ (n32 : Nat) (x5 : Int32) (f_p0 : Nat → Int32) (f_p1 : Nat → Int32), ∀ (H : Heap) (locs : List Loc) (ls : Array Slot), va_P (dC, dI) vwCl (zW_X0_goesOn cI cC cS q_p0 q_p1 f_p0 f_p1) H → va_D A (zW_X0_goesOn cI cC cS q_p0 q_p1 f_p0 f_p1) → va_S A s.heap H locs → lv_has ls 6 [(0, .ref q_p0), (1, .ref q_p1), (2, .int x2), (3, .int x3), (4, .int x4), (5, .int x5)] → lp_X0_goesOn_32 N (wp_X0_goesOn N d) x2 x3 x4 Φ n32 x5 f_p0 f_p1 → W p l e (headSpec wsX0_goesOn (zr_X0_goesOn (d + 1))).room s m ([.ref q_p0, .ref q_p1, .int x2, .int x3, .int x4] : List Value).toArray below meth c H locs 0 0 (MQ below (zQi (dC, dI) (zT cI cC cS) A (fun (r : Int32) (u : (Nat → Int32) × (Nat → Int32)) => Φ r u.1 u.2) (fun u => (zW_X0_goesOn cI cC cS q_p0 q_p1 u.1 u.2))) ([.ref q_p0, .ref q_p1, .int x2, .int x3, .int x4] : List Value).toArray s 0 0 A) (F0 m 32 ls []) := by
      intro n32
      induction n32 with
      | zero =>
        intro x5 f_p0 f_p1 H locs ls hP hD hS hl hf
        exact absurd hf (by rw [lp_X0_goesOn_32]; exact id)
      | succ n32 ih32 =>
        intro x5 f_p0 f_p1 H locs ls hP hD hS hl hf
        rw [lp_X0_goesOn_32] at hf
        refine lv_iload hx hb dX0_goesOn_32 (lv_at hl 5 rfl) ?_
        refine lv_bipush (v := 6) hx hb dX0_goesOn_34 (by decide) ?_
        refine lv_icmp_ge (tgt := 94) hx hb dX0_goesOn_36 (by decide) (fun c1 => ?_) (fun c1 => ?_)
        · replace hf := hf.1 c1
          refine lv_iconst (v := 0) hx hb dX0_goesOn_94 (by decide) ?_
          exact z_zret hx hb hr rfl hlocks (f_p0, f_p1) hf hK hP hD hS dX0_goesOn_95
        · replace hf := hf.2 c1
          refine lv_aload_n hx hb dX0_goesOn_39 rfl (lv_at hl 1 rfl) ?_
          refine lv_iload_n hx hb dX0_goesOn_40 rfl (lv_at hl 2 rfl) ?_
          refine va_iald hx hb hK hP 1 0 rfl rfl hf.1 dX0_goesOn_41 ?_
          replace hf := hf.2
          refine lv_iload hx hb dX0_goesOn_42 (lv_at hl 5 rfl) ?_
          refine lv_ishr hx hb dX0_goesOn_44 ?_
          refine lv_iconst (v := 1) hx hb dX0_goesOn_45 (by decide) ?_
          refine lv_iand hx hb dX0_goesOn_46 ?_
          refine lv_iconst (v := 1) hx hb dX0_goesOn_47 (by decide) ?_
          refine lv_icmp_ne (tgt := 88) hx hb dX0_goesOn_48 (by decide) (fun c2 => ?_) (fun c2 => ?_)
          · replace hf := hf.2 c2
            refine lv_iinc (v := (x5 + 1)) (lv' := [(5, .int (x5 + 1)), (0, .ref q_p0), (1, .ref q_p1), (2, .int x2), (3, .int x3), (4, .int x4)]) hx hb dX0_goesOn_88 hl (k := 5) rfl (by rfl) (by decide) rfl (fun ls hl => ?_)
            refine lv_goto (tgt := 32) hx hb dX0_goesOn_91 (by decide) ?_
            exact ih32 (x5 + 1) f_p0 f_p1 _ _ _ hP hD hS (lv_sub hl [1, 2, 3, 4, 5, 0] rfl) hf
          · replace hf := hf.1 c2
            refine lv_aload_n hx hb dX0_goesOn_51 rfl (lv_at hl 1 rfl) ?_
            refine lv_iload_n hx hb dX0_goesOn_52 rfl (lv_at hl 2 rfl) ?_
            refine lv_dup2_11 hx hb dX0_goesOn_53 rfl rfl ?_
            refine va_iald hx hb hK hP 1 0 rfl rfl hf.1 dX0_goesOn_54 ?_
            replace hf := hf.2
            refine lv_iconst (v := 1) hx hb dX0_goesOn_55 (by decide) ?_
            refine lv_iload hx hb dX0_goesOn_56 (lv_at hl 5 rfl) ?_
            refine lv_ishl hx hb dX0_goesOn_58 ?_
            refine lv_ixor hx hb dX0_goesOn_59 ?_
            refine va_iast hx hb hK hP hD hS 1 0 rfl rfl hf.1 dX0_goesOn_60 (fun H locs hP hD hS => ?_)
            replace hf := hf.2
            have hP : va_P (dC, dI) vwCl (zW_X0_goesOn cI cC cS q_p0 q_p1 f_p0 (upd f_p1 (Int32.toNatClampNeg x2) ((f_p1 (Int32.toNatClampNeg x2)) ^^^ (1 <<< (x5 &&& 31))))) H := hP
            have hD : va_D A (zW_X0_goesOn cI cC cS q_p0 q_p1 f_p0 (upd f_p1 (Int32.toNatClampNeg x2) ((f_p1 (Int32.toNatClampNeg x2)) ^^^ (1 <<< (x5 &&& 31))))) := hD
            refine lv_aload_n hx hb dX0_goesOn_61 rfl (lv_at hl 0 rfl) ?_
            refine lv_aload_n hx hb dX0_goesOn_62 rfl (lv_at hl 1 rfl) ?_
            refine lv_iload hx hb dX0_goesOn_63 (lv_at hl 5 rfl) ?_
            refine lv_iload_n hx hb dX0_goesOn_65 rfl (lv_at hl 3 rfl) ?_
            refine lv_iconst (v := 1) hx hb dX0_goesOn_66 (by decide) ?_
            refine lv_iadd hx hb dX0_goesOn_67 ?_
            refine lv_iload hx hb dX0_goesOn_68 (lv_at hl 4 rfl) ?_
            refine z_Si (n := 5) (As := [.ref q_p0, .ref q_p1, .int x5, .int (x3 + 1), .int x4]) (rest := []) ⟨hx, hb, hml, hown, hts⟩ (ihd q_p0 q_p1 _ f_p0 (upd f_p1 (Int32.toNatClampNeg x2) ((f_p1 (Int32.toNatClampNeg x2)) ^^^ (1 <<< (x5 &&& 31)))) x5 (x3 + 1) x4 _ hf) gX0_goesOn_X0_goesOn rfl rfl rfl (by decide +kernel) ⟨by show d + 1 ≤ d + 1; exact Nat.le_refl _, by show 8 + (6 + 11) + 35 * d ≤ 35 * (d + 1); omega⟩ hK hP hD hS hA rfl hl.1 rfl (Nat.le_of_ble_eq_true rfl) dX0_goesOn_70 ⟨Nat.zero_le _, Nat.zero_le _⟩ [0, 1] [] (([] : va_W)) rfl rfl (by decide) (by decide) (by decide) (fun u => (zW_X0_goesOn cI cC cS q_p0 q_p1 u.1 u.2)) [0, 1] (fun u => rfl) (by decide) (fun r3 u3 H locs hf hP hD hS => ?_)
            have hP : va_P (dC, dI) vwCl (zW_X0_goesOn cI cC cS q_p0 q_p1 u3.1 u3.2) H := hP
            have hD : va_D A (zW_X0_goesOn cI cC cS q_p0 q_p1 u3.1 u3.2) := hD
            refine lv_if_eq (tgt := 78) hx hb dX0_goesOn_73 (by decide) (fun c4 => ?_) (fun c4 => ?_)
            · replace hf := hf.1 c4
              refine lv_aload_n hx hb dX0_goesOn_78 rfl (lv_at hl 1 rfl) ?_
              refine lv_iload_n hx hb dX0_goesOn_79 rfl (lv_at hl 2 rfl) ?_
              refine lv_dup2_11 hx hb dX0_goesOn_80 rfl rfl ?_
              refine va_iald hx hb hK hP 1 0 rfl rfl hf.1 dX0_goesOn_81 ?_
              replace hf := hf.2
              refine lv_iconst (v := 1) hx hb dX0_goesOn_82 (by decide) ?_
              refine lv_iload hx hb dX0_goesOn_83 (lv_at hl 5 rfl) ?_
              refine lv_ishl hx hb dX0_goesOn_85 ?_
              refine lv_ixor hx hb dX0_goesOn_86 ?_
              refine va_iast hx hb hK hP hD hS 1 0 rfl rfl hf.1 dX0_goesOn_87 (fun H locs hP hD hS => ?_)
              replace hf := hf.2
              have hP : va_P (dC, dI) vwCl (zW_X0_goesOn cI cC cS q_p0 q_p1 u3.1 (upd u3.2 (Int32.toNatClampNeg x2) ((u3.2 (Int32.toNatClampNeg x2)) ^^^ (1 <<< (x5 &&& 31))))) H := hP
              have hD : va_D A (zW_X0_goesOn cI cC cS q_p0 q_p1 u3.1 (upd u3.2 (Int32.toNatClampNeg x2) ((u3.2 (Int32.toNatClampNeg x2)) ^^^ (1 <<< (x5 &&& 31))))) := hD
              refine lv_iinc (v := (x5 + 1)) (lv' := [(5, .int (x5 + 1)), (0, .ref q_p0), (1, .ref q_p1), (2, .int x2), (3, .int x3), (4, .int x4)]) hx hb dX0_goesOn_88 hl (k := 5) rfl (by rfl) (by decide) rfl (fun ls hl => ?_)
              refine lv_goto (tgt := 32) hx hb dX0_goesOn_91 (by decide) ?_
              exact ih32 (x5 + 1) u3.1 (upd u3.2 (Int32.toNatClampNeg x2) ((u3.2 (Int32.toNatClampNeg x2)) ^^^ (1 <<< (x5 &&& 31)))) _ _ _ hP hD hS (lv_sub hl [1, 2, 3, 4, 5, 0] rfl) hf
            · replace hf := hf.2 c4
              refine lv_iconst (v := 1) hx hb dX0_goesOn_76 (by decide) ?_
              exact z_zret hx hb hr rfl hlocks (u3.1, u3.2) hf hK hP hD hS dX0_goesOn_77
    rw [wp_X0_goesOn] at hf
    refine lv_iload_n hx hb dX0_goesOn_0 rfl (lv_at hl 3 rfl) ?_
    refine lv_iload hx hb dX0_goesOn_1 (lv_at hl 4 rfl) ?_
    refine lv_icmp_ge (tgt := 12) hx hb dX0_goesOn_3 (by decide) (fun c1 => ?_) (fun c1 => ?_)
    · replace hf := hf.1 c1
      refine lv_iload_n hx hb dX0_goesOn_12 rfl (lv_at hl 2 rfl) ?_
      refine lv_aload_n hx hb dX0_goesOn_13 rfl (lv_at hl 0 rfl) ?_
      refine lv_iconst (v := 0) hx hb dX0_goesOn_14 (by decide) ?_
      refine va_iald hx hb hK hP 0 0 rfl rfl (i := 0) (by unfold vp_in; decide) dX0_goesOn_15 ?_
      refine lv_icmp_ne (tgt := 23) hx hb dX0_goesOn_16 (by decide) (fun c2 => ?_) (fun c2 => ?_)
      · replace hf := hf.2 c2
        refine lv_iconst (v := 0) hx hb dX0_goesOn_23 (by decide) ?_
        exact z_zret hx hb hr rfl hlocks (f_p0, f_p1) hf hK hP hD hS dX0_goesOn_24
      · replace hf := hf.1 c2
        refine lv_iconst (v := 1) hx hb dX0_goesOn_19 (by decide) ?_
        refine lv_goto (tgt := 24) hx hb dX0_goesOn_20 (by decide) ?_
        exact z_zret hx hb hr rfl hlocks (f_p0, f_p1) hf hK hP hD hS dX0_goesOn_24
    · replace hf := hf.2 c1
      refine lv_iload_n hx hb dX0_goesOn_6 rfl (lv_at hl 3 rfl) ?_
      refine lv_bipush (v := 12) hx hb dX0_goesOn_7 (by decide) ?_
      refine lv_icmp_lt (tgt := 25) hx hb dX0_goesOn_9 (by decide) (fun c3 => ?_) (fun c3 => ?_)
      · replace hf := hf.1 c3
        refine lv_aload_n hx hb dX0_goesOn_25 rfl (lv_at hl 0 rfl) ?_
        refine lv_iload_n hx hb dX0_goesOn_26 rfl (lv_at hl 3 rfl) ?_
        refine lv_iload_n hx hb dX0_goesOn_27 rfl (lv_at hl 2 rfl) ?_
        refine va_iast hx hb hK hP hD hS 0 0 rfl rfl hf.1 dX0_goesOn_28 (fun H locs hP hD hS => ?_)
        replace hf := hf.2
        have hP : va_P (dC, dI) vwCl (zW_X0_goesOn cI cC cS q_p0 q_p1 (upd f_p0 (Int32.toNatClampNeg x3) x2) f_p1) H := hP
        have hD : va_D A (zW_X0_goesOn cI cC cS q_p0 q_p1 (upd f_p0 (Int32.toNatClampNeg x3) x2) f_p1) := hD
        refine lv_iconst (v := 0) hx hb dX0_goesOn_29 (by decide) ?_
        refine lv_istore (lv' := [(5, .int 0), (0, .ref q_p0), (1, .ref q_p1), (2, .int x2), (3, .int x3), (4, .int x4)]) hx hb dX0_goesOn_30 hl (by decide) rfl (fun ls hl => ?_)
        exact L32  N 0 (upd f_p0 (Int32.toNatClampNeg x3) x2) f_p1 _ _ _ hP hD hS (lv_sub hl [1, 2, 3, 4, 5, 0] rfl) hf
      · replace hf := hf.2 c3
        refine lv_iload_n hx hb dX0_goesOn_12 rfl (lv_at hl 2 rfl) ?_
        refine lv_aload_n hx hb dX0_goesOn_13 rfl (lv_at hl 0 rfl) ?_
        refine lv_iconst (v := 0) hx hb dX0_goesOn_14 (by decide) ?_
        refine va_iald hx hb hK hP 0 0 rfl rfl (i := 0) (by unfold vp_in; decide) dX0_goesOn_15 ?_
        refine lv_icmp_ne (tgt := 23) hx hb dX0_goesOn_16 (by decide) (fun c4 => ?_) (fun c4 => ?_)
        · replace hf := hf.2 c4
          refine lv_iconst (v := 0) hx hb dX0_goesOn_23 (by decide) ?_
          exact z_zret hx hb hr rfl hlocks (f_p0, f_p1) hf hK hP hD hS dX0_goesOn_24
        · replace hf := hf.1 c4
          refine lv_iconst (v := 1) hx hb dX0_goesOn_19 (by decide) ?_
          refine lv_goto (tgt := 24) hx hb dX0_goesOn_20 (by decide) ?_
          exact z_zret hx hb hr rfl hlocks (f_p0, f_p1) hf hK hP hD hS dX0_goesOn_24
def ex_X0_close_64 (N : Nat) (f_this_ring : Nat → Int32) (f_this_behind : Nat → Int32) (v_p1_many : Int32) (f_p1_ones : Nat → Int32) (f_p1_others : Nat → Int32) (Φ : Int32 → (Nat → Int32) → (Nat → Int32) → Prop) : Prop := 
    wp_X0_goesOn N 16 (f_p1_others (Int32.toNatClampNeg 0)) 1 v_p1_many (upd f_this_ring (Int32.toNatClampNeg 0) (f_p1_ones (Int32.toNatClampNeg 0))) f_this_behind (fun r1 o1_0 o1_1 => 
     ((r1 = 0 ∨ r1 = 1) ∧ Φ r1 o1_0 o1_1))
def lp_X0_close_28 (N : Nat) (v_p1_many : Int32) (f_p1_ones : Nat → Int32) (f_p1_others : Nat → Int32) (Φ : Int32 → (Nat → Int32) → (Nat → Int32) → Prop) (k64 : (Nat → Int32) → Prop) : Nat → Int32 → (Nat → Int32) → Prop
  | 0, _, _ => False
  | n + 1, x2, f_this_behind => 
    ((v_p1_many ≤ x2 → k64 f_this_behind) ∧
     (¬ (v_p1_many ≤ x2) → (vp_in x2 12 ∧ (vp_in (f_p1_ones (Int32.toNatClampNeg x2)) 6 ∧ (vp_in x2 12 ∧ (vp_in (f_p1_ones (Int32.toNatClampNeg x2)) 6 ∧ (lp_X0_close_28 N v_p1_many f_p1_ones f_p1_others Φ k64 n) (x2 + 1) (upd f_this_behind (Int32.toNatClampNeg (f_p1_ones (Int32.toNatClampNeg x2))) ((f_this_behind (Int32.toNatClampNeg (f_p1_ones (Int32.toNatClampNeg x2)))) ||| (1 <<< ((f_p1_others (Int32.toNatClampNeg x2)) &&& 31))))))))))
def wp_X0_close (N : Nat) (f_this_ring : Nat → Int32) (f_this_behind : Nat → Int32) (v_p1_many : Int32) (f_p1_ones : Nat → Int32) (f_p1_others : Nat → Int32) (Φ : Int32 → (Nat → Int32) → (Nat → Int32) → Prop) : Prop := 
    ((v_p1_many < 1 → Φ 0 f_this_ring f_this_behind) ∧
     (¬ (v_p1_many < 1) → wp_X0_isBalanced N f_this_behind v_p1_many f_p1_ones f_p1_others (fun r2 o2_0 => 
     ((r2 = 0 → Φ 0 f_this_ring o2_0) ∧
     (¬ (r2 = 0) → wp_J7_fill_53178 N 6 0 o2_0 (fun o4_0 => 
     lp_X0_close_28 N v_p1_many f_p1_ones f_p1_others Φ (fun f_this_behindh28 => ex_X0_close_64 N f_this_ring f_this_behindh28 v_p1_many f_p1_ones f_p1_others Φ) N 1 o4_0))))))
abbrev zW_X0_close (cI cC cS : ClassId) (q_this : Nat) (q_this_ring : Nat) (q_this_behind : Nat) (q_p1 : Nat) (q_p1_ones : Nat) (q_p1_others : Nat) (f_this_ring : Nat → Int32) (f_this_behind : Nat → Int32) (v_p1_many : Int32) (f_p1_ones : Nat → Int32) (f_p1_others : Nat → Int32) : va_W := [(q_this, .inr (0, [.ref q_this_ring, .ref q_this_behind])),
  (q_this_ring, .inl (cI, 12, .inl f_this_ring)),
  (q_this_behind, .inl (cI, 6, .inl f_this_behind)),
  (q_p1, .inr (3, [.ref q_p1_ones, .ref q_p1_others, .int v_p1_many])),
  (q_p1_ones, .inl (cI, 12, .inl f_p1_ones)),
  (q_p1_others, .inl (cI, 12, .inl f_p1_others))]
abbrev zr_X0_close : Room := { frames := 17, cells := 0, slots := 0, locals := 585 }
set_option maxHeartbeats 4000000 in
set_option maxRecDepth 100000 in
theorem c_X0_close (l : Launch) (dC : Nat → ClassId) (dI : Nat → Nat → Nat) (cI cC cS : ClassId) (q_this : Nat) (q_this_ring : Nat) (q_this_behind : Nat) (q_p1 : Nat) (q_p1_ones : Nat) (q_p1_others : Nat) (sz : Nat) (f_this_ring : Nat → Int32) (f_this_behind : Nat → Int32) (v_p1_many : Int32) (f_p1_ones : Nat → Int32) (f_p1_others : Nat → Int32) (N : Nat) (Φ : Int32 → (Nat → Int32) → (Nat → Int32) → Prop)  (hf : wp_X0_close N f_this_ring f_this_behind v_p1_many f_p1_ones f_p1_others Φ) : Met l yX0_close wsX0_close zr_X0_close (zPc (dC, dI) (zT cI cC cS) [.ref q_this, .ref q_p1] sz (zW_X0_close cI cC cS q_this q_this_ring q_this_behind q_p1 q_p1_ones q_p1_others f_this_ring f_this_behind v_p1_many f_p1_ones f_p1_others)) (zQi (dC, dI) (zT cI cC cS) (va_A (zW_X0_close cI cC cS q_this q_this_ring q_this_behind q_p1 q_p1_ones q_p1_others f_this_ring f_this_behind v_p1_many f_p1_ones f_p1_others) sz) (fun (r : Int32) (u : (Nat → Int32) × (Nat → Int32)) => Φ r u.1 u.2) (fun u => (zW_X0_close cI cC cS q_this q_this_ring q_this_behind q_p1 q_p1_ones q_p1_others u.1 u.2 v_p1_many f_p1_ones f_p1_others))) 0 0 (va_A (zW_X0_close cI cC cS q_this q_this_ring q_this_behind q_p1 q_p1_ones q_p1_others f_this_ring f_this_behind v_p1_many f_p1_ones f_p1_others) sz) := by
  refine Met.ofW (cc := cX0_close) (maxL := 3) (ret := (some .boolean)) (by decide) rfl ?_
  intro p e s m args below meth c s₁ B hml hv
  obtain ⟨rfl, hsz, hP, hK, hD0⟩ := hv
  have hx := B.exec
  have hb := B.bytes
  have hr := B.returns
  have hts := atoms_spec (ws := wsX0_close) B.pre
  have hown : s.vm.findClass RX0 = some m.cls := findClass_of_methodNamed B.named
  have hlocks := B.notSynchronized
  subst hsz
  have hD := hD0.self (sz := s.heap.size)
  have hA : ∀ q : Nat, s.heap.size ≤ q → va_A (zW_X0_close cI cC cS q_this q_this_ring q_this_behind q_p1 q_p1_ones q_p1_others f_this_ring f_this_behind v_p1_many f_p1_ones f_p1_others) s.heap.size q := fun q h => Or.inr h
  generalize va_A (zW_X0_close cI cC cS q_this q_this_ring q_this_behind q_p1 q_p1_ones q_p1_others f_this_ring f_this_behind v_p1_many f_p1_ones f_p1_others) s.heap.size = A at hD hA ⊢
  have hS : va_S A s.heap s.heap [] := va_S.rf
  have hl := lv_entry ([.ref q_this, .ref q_p1]) (n := 3) (Nat.le_of_ble_eq_true rfl)
  rw [lg_entry_eq]
  generalize (lg_sl ([.ref q_this, .ref q_p1]) ++ List.replicate (3 - (lg_sl ([.ref q_this, .ref q_p1])).length) Slot.unset).toArray = ls at hl ⊢
  have hl : lv_has ls 3 [(0, .ref q_this), (1, .ref q_p1)] := hl
  have lk5 := hts (.fieldLink RX0 9 "ReadFromAnywhere$Chain" "ring" "[I") (List.mem_of_getElem? (i := 5) rfl)
  have inX0 : ∀ w ∈ u_ws RX0 TX0 2, w ∈ wsX0_close := fun _ h => List.mem_cons_of_mem _ (List.mem_append_right _ h)
  have lk3 := hts (.fieldLink RX0 34 "ReadFromAnywhere$Pairs" "ones" "[I") (List.mem_of_getElem? (i := 3) rfl)
  have inX3 : ∀ w ∈ u_ws RX3 TX3 3, w ∈ wsX0_close := fun _ h => List.mem_cons_of_mem _ (List.mem_append_left _ (List.mem_append_right _ h))
  have lk2 := hts (.fieldLink RX0 15 "ReadFromAnywhere$Chain" "behind" "[I") (List.mem_of_getElem? (i := 2) rfl)
  have lk4 := hts (.fieldLink RX0 37 "ReadFromAnywhere$Pairs" "others" "[I") (List.mem_of_getElem? (i := 4) rfl)
  have lk1 := hts (.fieldLink RX0 18 "ReadFromAnywhere$Pairs" "many" "I") (List.mem_of_getElem? (i := 1) rfl)
  have E64 : ∀ (f_this_ring : Nat → Int32) (f_this_behind : Nat → Int32), ∀ (H : Heap) (locs : List Loc) (ls : Array Slot), va_P (dC, dI) vwCl (zW_X0_close cI cC cS q_this q_this_ring q_this_behind q_p1 q_p1_ones q_p1_others f_this_ring f_this_behind v_p1_many f_p1_ones f_p1_others) H → va_D A (zW_X0_close cI cC cS q_this q_this_ring q_this_behind q_p1 q_p1_ones q_p1_others f_this_ring f_this_behind v_p1_many f_p1_ones f_p1_others) → va_S A s.heap H locs → lv_has ls 3 [(0, .ref q_this), (1, .ref q_p1)] → ex_X0_close_64 N f_this_ring f_this_behind v_p1_many f_p1_ones f_p1_others Φ → W p l e (headSpec wsX0_close zr_X0_close).room s m ([.ref q_this, .ref q_p1] : List Value).toArray below meth c H locs 0 0 (MQ below (zQi (dC, dI) (zT cI cC cS) A (fun (r : Int32) (u : (Nat → Int32) × (Nat → Int32)) => Φ r u.1 u.2) (fun u => (zW_X0_close cI cC cS q_this q_this_ring q_this_behind q_p1 q_p1_ones q_p1_others u.1 u.2 v_p1_many f_p1_ones f_p1_others))) ([.ref q_this, .ref q_p1] : List Value).toArray s 0 0 A) (F0 m 64 ls []) := by
    intro f_this_ring f_this_behind H locs ls hP hD hS hl hf
    unfold ex_X0_close_64 at hf
    refine lv_aload_n hx hb dX0_close_64 rfl (lv_at hl 0 rfl) ?_
    refine va_get (D := (dC, dI)) (ci := 0) (v := .ref q_this_ring) (C := RX0) (T := TX0) (N := 2) hx hb hts inX0 hown hK hP 0 rfl rfl 0 (by decide) lk5 (fun _ h9 => h9) rfl dX0_close_65 ?_
    refine lv_iconst (v := 0) hx hb dX0_close_68 (by decide) ?_
    refine lv_aload_n hx hb dX0_close_69 rfl (lv_at hl 1 rfl) ?_
    refine va_get (D := (dC, dI)) (ci := 3) (v := .ref q_p1_ones) (C := RX3) (T := TX3) (N := 3) hx hb hts inX3 hown hK hP 3 rfl rfl 0 (by decide) lk3 (fun _ h9 => h9) rfl dX0_close_70 ?_
    refine lv_iconst (v := 0) hx hb dX0_close_73 (by decide) ?_
    refine va_iald hx hb hK hP 4 0 rfl rfl (i := 0) (by unfold vp_in; decide) dX0_close_74 ?_
    refine va_iast hx hb hK hP hD hS 1 0 rfl rfl (i := 0) (by unfold vp_in; decide) dX0_close_75 (fun H locs hP hD hS => ?_)
    have hP : va_P (dC, dI) vwCl (zW_X0_close cI cC cS q_this q_this_ring q_this_behind q_p1 q_p1_ones q_p1_others (upd f_this_ring (Int32.toNatClampNeg 0) (f_p1_ones (Int32.toNatClampNeg 0))) f_this_behind v_p1_many f_p1_ones f_p1_others) H := hP
    have hD : va_D A (zW_X0_close cI cC cS q_this q_this_ring q_this_behind q_p1 q_p1_ones q_p1_others (upd f_this_ring (Int32.toNatClampNeg 0) (f_p1_ones (Int32.toNatClampNeg 0))) f_this_behind v_p1_many f_p1_ones f_p1_others) := hD
    refine lv_aload_n hx hb dX0_close_76 rfl (lv_at hl 0 rfl) ?_
    refine va_get (D := (dC, dI)) (ci := 0) (v := .ref q_this_ring) (C := RX0) (T := TX0) (N := 2) hx hb hts inX0 hown hK hP 0 rfl rfl 0 (by decide) lk5 (fun _ h9 => h9) rfl dX0_close_77 ?_
    refine lv_aload_n hx hb dX0_close_80 rfl (lv_at hl 0 rfl) ?_
    refine va_get (D := (dC, dI)) (ci := 0) (v := .ref q_this_behind) (C := RX0) (T := TX0) (N := 2) hx hb hts inX0 hown hK hP 0 rfl rfl 1 (by decide) lk2 (fun _ h9 => h9) rfl dX0_close_81 ?_
    refine lv_aload_n hx hb dX0_close_84 rfl (lv_at hl 1 rfl) ?_
    refine va_get (D := (dC, dI)) (ci := 3) (v := .ref q_p1_others) (C := RX3) (T := TX3) (N := 3) hx hb hts inX3 hown hK hP 3 rfl rfl 1 (by decide) lk4 (fun _ h9 => h9) rfl dX0_close_85 ?_
    refine lv_iconst (v := 0) hx hb dX0_close_88 (by decide) ?_
    refine va_iald hx hb hK hP 5 0 rfl rfl (i := 0) (by unfold vp_in; decide) dX0_close_89 ?_
    refine lv_iconst (v := 1) hx hb dX0_close_90 (by decide) ?_
    refine lv_aload_n hx hb dX0_close_91 rfl (lv_at hl 1 rfl) ?_
    refine va_get (D := (dC, dI)) (ci := 3) (v := .int v_p1_many) (C := RX3) (T := TX3) (N := 3) hx hb hts inX3 hown hK hP 3 rfl rfl 2 (by decide) lk1 (fun _ h9 => h9) rfl dX0_close_92 ?_
    refine z_Si (n := 5) (As := [.ref q_this_ring, .ref q_this_behind, .int (f_p1_others (Int32.toNatClampNeg 0)), .int 1, .int v_p1_many]) (rest := []) ⟨hx, hb, hml, hown, hts⟩ (c_X0_goesOn l dC dI cI cC cS N 16 q_this_ring q_this_behind _ (upd f_this_ring (Int32.toNatClampNeg 0) (f_p1_ones (Int32.toNatClampNeg 0))) f_this_behind (f_p1_others (Int32.toNatClampNeg 0)) 1 v_p1_many _ hf) gX0_close_X0_goesOn rfl rfl rfl (by decide +kernel) ⟨Nat.le_of_ble_eq_true rfl, Nat.le_of_ble_eq_true rfl⟩ hK hP hD hS hA rfl hl.1 rfl (Nat.le_of_ble_eq_true rfl) dX0_close_95 ⟨Nat.zero_le _, Nat.zero_le _⟩ [1, 2] [0, 3, 4, 5] (([(q_this, .inr (0, [.ref q_this_ring, .ref q_this_behind])), (q_p1, .inr (3, [.ref q_p1_ones, .ref q_p1_others, .int v_p1_many])), (q_p1_ones, .inl (cI, 12, .inl f_p1_ones)), (q_p1_others, .inl (cI, 12, .inl f_p1_others))] : va_W)) rfl rfl (by decide) (by decide) (by decide) (fun u => (zW_X0_close cI cC cS q_this q_this_ring q_this_behind q_p1 q_p1_ones q_p1_others u.1 u.2 v_p1_many f_p1_ones f_p1_others)) [0, 4, 5, 1, 2, 3] (fun u => rfl) (by decide) (fun r1 u1 H locs hf hP hD hS => ?_)
    have hP : va_P (dC, dI) vwCl (zW_X0_close cI cC cS q_this q_this_ring q_this_behind q_p1 q_p1_ones q_p1_others u1.1 u1.2 v_p1_many f_p1_ones f_p1_others) H := hP
    have hD : va_D A (zW_X0_close cI cC cS q_this q_this_ring q_this_behind q_p1 q_p1_ones q_p1_others u1.1 u1.2 v_p1_many f_p1_ones f_p1_others) := hD
    exact z_zret hx hb hr (z_nz hf.1) hlocks (u1.1, u1.2) hf.2 hK hP hD hS dX0_close_98
  have L28 : ∀ (f_this_ring : Nat → Int32), ∀ (n28 : Nat) (x2 : Int32) (f_this_behind : Nat → Int32), ∀ (H : Heap) (locs : List Loc) (ls : Array Slot), va_P (dC, dI) vwCl (zW_X0_close cI cC cS q_this q_this_ring q_this_behind q_p1 q_p1_ones q_p1_others f_this_ring f_this_behind v_p1_many f_p1_ones f_p1_others) H → va_D A (zW_X0_close cI cC cS q_this q_this_ring q_this_behind q_p1 q_p1_ones q_p1_others f_this_ring f_this_behind v_p1_many f_p1_ones f_p1_others) → va_S A s.heap H locs → lv_has ls 3 [(0, .ref q_this), (1, .ref q_p1), (2, .int x2)] → lp_X0_close_28 N v_p1_many f_p1_ones f_p1_others Φ (fun f_this_behindh28 => ex_X0_close_64 N f_this_ring f_this_behindh28 v_p1_many f_p1_ones f_p1_others Φ) n28 x2 f_this_behind → W p l e (headSpec wsX0_close zr_X0_close).room s m ([.ref q_this, .ref q_p1] : List Value).toArray below meth c H locs 0 0 (MQ below (zQi (dC, dI) (zT cI cC cS) A (fun (r : Int32) (u : (Nat → Int32) × (Nat → Int32)) => Φ r u.1 u.2) (fun u => (zW_X0_close cI cC cS q_this q_this_ring q_this_behind q_p1 q_p1_ones q_p1_others u.1 u.2 v_p1_many f_p1_ones f_p1_others))) ([.ref q_this, .ref q_p1] : List Value).toArray s 0 0 A) (F0 m 28 ls []) := by
    intro f_this_ring
    intro n28
    induction n28 with
    | zero =>
      intro x2 f_this_behind H locs ls hP hD hS hl hf
      exact absurd hf (by rw [lp_X0_close_28]; exact id)
    | succ n28 ih28 =>
      intro x2 f_this_behind H locs ls hP hD hS hl hf
      rw [lp_X0_close_28] at hf
      refine lv_iload_n hx hb dX0_close_28 rfl (lv_at hl 2 rfl) ?_
      refine lv_aload_n hx hb dX0_close_29 rfl (lv_at hl 1 rfl) ?_
      refine va_get (D := (dC, dI)) (ci := 3) (v := .int v_p1_many) (C := RX3) (T := TX3) (N := 3) hx hb hts inX3 hown hK hP 3 rfl rfl 2 (by decide) lk1 (fun _ h9 => h9) rfl dX0_close_30 ?_
      refine lv_icmp_ge (tgt := 64) hx hb dX0_close_33 (by decide) (fun c2 => ?_) (fun c2 => ?_)
      · replace hf := hf.1 c2
        exact E64 f_this_ring f_this_behind _ _ _ hP hD hS (lv_sub hl [0, 1] rfl) hf
      · replace hf := hf.2 c2
        refine lv_aload_n hx hb dX0_close_36 rfl (lv_at hl 0 rfl) ?_
        refine va_get (D := (dC, dI)) (ci := 0) (v := .ref q_this_behind) (C := RX0) (T := TX0) (N := 2) hx hb hts inX0 hown hK hP 0 rfl rfl 1 (by decide) lk2 (fun _ h9 => h9) rfl dX0_close_37 ?_
        refine lv_aload_n hx hb dX0_close_40 rfl (lv_at hl 1 rfl) ?_
        refine va_get (D := (dC, dI)) (ci := 3) (v := .ref q_p1_ones) (C := RX3) (T := TX3) (N := 3) hx hb hts inX3 hown hK hP 3 rfl rfl 0 (by decide) lk3 (fun _ h9 => h9) rfl dX0_close_41 ?_
        refine lv_iload_n hx hb dX0_close_44 rfl (lv_at hl 2 rfl) ?_
        refine va_iald hx hb hK hP 4 0 rfl rfl hf.1 dX0_close_45 ?_
        replace hf := hf.2
        refine lv_dup2_11 hx hb dX0_close_46 rfl rfl ?_
        refine va_iald hx hb hK hP 2 0 rfl rfl hf.1 dX0_close_47 ?_
        replace hf := hf.2
        refine lv_iconst (v := 1) hx hb dX0_close_48 (by decide) ?_
        refine lv_aload_n hx hb dX0_close_49 rfl (lv_at hl 1 rfl) ?_
        refine va_get (D := (dC, dI)) (ci := 3) (v := .ref q_p1_others) (C := RX3) (T := TX3) (N := 3) hx hb hts inX3 hown hK hP 3 rfl rfl 1 (by decide) lk4 (fun _ h9 => h9) rfl dX0_close_50 ?_
        refine lv_iload_n hx hb dX0_close_53 rfl (lv_at hl 2 rfl) ?_
        refine va_iald hx hb hK hP 5 0 rfl rfl hf.1 dX0_close_54 ?_
        replace hf := hf.2
        refine lv_ishl hx hb dX0_close_55 ?_
        refine lv_ior hx hb dX0_close_56 ?_
        refine va_iast hx hb hK hP hD hS 2 0 rfl rfl hf.1 dX0_close_57 (fun H locs hP hD hS => ?_)
        replace hf := hf.2
        have hP : va_P (dC, dI) vwCl (zW_X0_close cI cC cS q_this q_this_ring q_this_behind q_p1 q_p1_ones q_p1_others f_this_ring (upd f_this_behind (Int32.toNatClampNeg (f_p1_ones (Int32.toNatClampNeg x2))) ((f_this_behind (Int32.toNatClampNeg (f_p1_ones (Int32.toNatClampNeg x2)))) ||| (1 <<< ((f_p1_others (Int32.toNatClampNeg x2)) &&& 31)))) v_p1_many f_p1_ones f_p1_others) H := hP
        have hD : va_D A (zW_X0_close cI cC cS q_this q_this_ring q_this_behind q_p1 q_p1_ones q_p1_others f_this_ring (upd f_this_behind (Int32.toNatClampNeg (f_p1_ones (Int32.toNatClampNeg x2))) ((f_this_behind (Int32.toNatClampNeg (f_p1_ones (Int32.toNatClampNeg x2)))) ||| (1 <<< ((f_p1_others (Int32.toNatClampNeg x2)) &&& 31)))) v_p1_many f_p1_ones f_p1_others) := hD
        refine lv_iinc (v := (x2 + 1)) (lv' := [(2, .int (x2 + 1)), (0, .ref q_this), (1, .ref q_p1)]) hx hb dX0_close_58 hl (k := 2) rfl (by rfl) (by decide) rfl (fun ls hl => ?_)
        refine lv_goto (tgt := 28) hx hb dX0_close_61 (by decide) ?_
        exact ih28 (x2 + 1) (upd f_this_behind (Int32.toNatClampNeg (f_p1_ones (Int32.toNatClampNeg x2))) ((f_this_behind (Int32.toNatClampNeg (f_p1_ones (Int32.toNatClampNeg x2)))) ||| (1 <<< ((f_p1_others (Int32.toNatClampNeg x2)) &&& 31)))) _ _ _ hP hD hS (lv_sub hl [1, 2, 0] rfl) hf
  unfold wp_X0_close at hf
  refine lv_aload_n hx hb dX0_close_0 rfl (lv_at hl 1 rfl) ?_
  refine va_get (D := (dC, dI)) (ci := 3) (v := .int v_p1_many) (C := RX3) (T := TX3) (N := 3) hx hb hts inX3 hown hK hP 3 rfl rfl 2 (by decide) lk1 (fun _ h9 => h9) rfl dX0_close_1 ?_
  refine lv_iconst (v := 1) hx hb dX0_close_4 (by decide) ?_
  refine lv_icmp_lt (tgt := 16) hx hb dX0_close_5 (by decide) (fun c1 => ?_) (fun c1 => ?_)
  · replace hf := hf.1 c1
    refine lv_iconst (v := 0) hx hb dX0_close_16 (by decide) ?_
    exact z_zret hx hb hr rfl hlocks (f_this_ring, f_this_behind) hf hK hP hD hS dX0_close_17
  · replace hf := hf.2 c1
    refine lv_aload_n hx hb dX0_close_8 rfl (lv_at hl 0 rfl) ?_
    refine lv_aload_n hx hb dX0_close_9 rfl (lv_at hl 1 rfl) ?_
    refine z_Vi (n := 1) (As := [.ref q_p1]) (rest := []) ⟨hx, hb, hml, hown, hts⟩ (c_X0_isBalanced l dC dI cI cC cS q_this q_this_behind q_p1 q_p1_ones q_p1_others q_this_ring _ f_this_behind v_p1_many f_p1_ones f_p1_others  N _  hf) gX0_close_X0_isBalanced rfl rfl rfl (by decide +kernel) ⟨Nat.le_of_ble_eq_true rfl, Nat.le_of_ble_eq_true rfl⟩ hK hP hD hS hA 0 0 rfl rfl rfl hl.1 rfl (Nat.le_of_ble_eq_true rfl) dX0_close_10 ⟨Nat.zero_le _, Nat.zero_le _⟩ [0, 2, 3, 4, 5] [1] (([(q_this_ring, .inl (cI, 12, .inl f_this_ring))] : va_W)) rfl rfl (by decide) (by decide) (by decide) (fun u => (zW_X0_close cI cC cS q_this q_this_ring q_this_behind q_p1 q_p1_ones q_p1_others f_this_ring u v_p1_many f_p1_ones f_p1_others)) [1, 0, 2, 3, 4, 5] (fun u => rfl) (by decide) (fun r2 u2 H locs hf hP hD hS => ?_)
    have hP : va_P (dC, dI) vwCl (zW_X0_close cI cC cS q_this q_this_ring q_this_behind q_p1 q_p1_ones q_p1_others f_this_ring u2 v_p1_many f_p1_ones f_p1_others) H := hP
    have hD : va_D A (zW_X0_close cI cC cS q_this q_this_ring q_this_behind q_p1 q_p1_ones q_p1_others f_this_ring u2 v_p1_many f_p1_ones f_p1_others) := hD
    refine lv_if_ne (tgt := 18) hx hb dX0_close_13 (by decide) (fun c3 => ?_) (fun c3 => ?_)
    · replace hf := hf.2 c3
      refine lv_aload_n hx hb dX0_close_18 rfl (lv_at hl 0 rfl) ?_
      refine va_get (D := (dC, dI)) (ci := 0) (v := .ref q_this_behind) (C := RX0) (T := TX0) (N := 2) hx hb hts inX0 hown hK hP 0 rfl rfl 1 (by decide) lk2 (fun _ h9 => h9) rfl dX0_close_19 ?_
      refine lv_iconst (v := 0) hx hb dX0_close_22 (by decide) ?_
      refine z_Sv (n := 2) (As := [.ref q_this_behind, .int 0]) (rest := []) ⟨hx, hb, hml, hown, hts⟩ (c_J7_fill_53178 l dC dI cI cC cS q_this_behind _ 6 u2 0 N _  hf) gX0_close_J7_fill_53178 rfl rfl rfl (by decide +kernel) ⟨Nat.le_of_ble_eq_true rfl, Nat.le_of_ble_eq_true rfl⟩ hK hP hD hS hA rfl hl.1 rfl (Nat.le_of_ble_eq_true rfl) dX0_close_23 ⟨Nat.zero_le _, Nat.zero_le _⟩ [2] [0, 1, 3, 4, 5] (([(q_this, .inr (0, [.ref q_this_ring, .ref q_this_behind])), (q_this_ring, .inl (cI, 12, .inl f_this_ring)), (q_p1, .inr (3, [.ref q_p1_ones, .ref q_p1_others, .int v_p1_many])), (q_p1_ones, .inl (cI, 12, .inl f_p1_ones)), (q_p1_others, .inl (cI, 12, .inl f_p1_others))] : va_W)) rfl rfl (by decide) (by decide) (by decide) (fun u => (zW_X0_close cI cC cS q_this q_this_ring q_this_behind q_p1 q_p1_ones q_p1_others f_this_ring u v_p1_many f_p1_ones f_p1_others)) [0, 1, 5, 2, 3, 4] (fun u => rfl) (by decide) (fun u4 H locs hf hP hD hS => ?_)
      have hP : va_P (dC, dI) vwCl (zW_X0_close cI cC cS q_this q_this_ring q_this_behind q_p1 q_p1_ones q_p1_others f_this_ring u4 v_p1_many f_p1_ones f_p1_others) H := hP
      have hD : va_D A (zW_X0_close cI cC cS q_this q_this_ring q_this_behind q_p1 q_p1_ones q_p1_others f_this_ring u4 v_p1_many f_p1_ones f_p1_others) := hD
      refine lv_iconst (v := 1) hx hb dX0_close_26 (by decide) ?_
      refine lv_istore_n (lv' := [(2, .int 1), (0, .ref q_this), (1, .ref q_p1)]) hx hb dX0_close_27 rfl hl (by decide) rfl (fun ls hl => ?_)
      exact L28 f_this_ring N 1 u4 _ _ _ hP hD hS (lv_sub hl [1, 2, 0] rfl) hf
    · replace hf := hf.1 c3
      refine lv_iconst (v := 0) hx hb dX0_close_16 (by decide) ?_
      exact z_zret hx hb hr rfl hlocks (f_this_ring, u2) hf hK hP hD hS dX0_close_17
def wp_X9_copyFrom (N : Nat) (v_this_tongue_words : Int32) (v_this_tongue_roads : Int32) (f_this_tongue_kinds : Nat → Int32) (f_this_tongue_sets : Nat → Int32) (f_this_tongue_weights : Nat → Int32) (f_this_tongue_stocks : Nat → Int32) (f_this_tongue_readers : Nat → Int32) (f_this_tongue_eighths : Nat → Int32) (f_this_tongue_wishes : Nat → Int32) (v_this_ring_places : Int32) (f_this_ring_has : Nat → Int32) (v_this_pairs_many : Int32) (f_this_pairs_ones : Nat → Int32) (f_this_pairs_others : Nat → Int32) (v_p1_tongue_words : Int32) (v_p1_tongue_roads : Int32) (f_p1_tongue_kinds : Nat → Int32) (f_p1_tongue_sets : Nat → Int32) (f_p1_tongue_weights : Nat → Int32) (f_p1_tongue_stocks : Nat → Int32) (f_p1_tongue_readers : Nat → Int32) (f_p1_tongue_eighths : Nat → Int32) (f_p1_tongue_wishes : Nat → Int32) (v_p1_ring_places : Int32) (f_p1_ring_has : Nat → Int32) (v_p1_pairs_many : Int32) (f_p1_pairs_ones : Nat → Int32) (f_p1_pairs_others : Nat → Int32) (Φ : Int32 → Int32 → (Nat → Int32) → (Nat → Int32) → (Nat → Int32) → (Nat → Int32) → (Nat → Int32) → (Nat → Int32) → (Nat → Int32) → Int32 → (Nat → Int32) → Int32 → (Nat → Int32) → (Nat → Int32) → Prop) : Prop := 
    wp_X8_copyFrom N v_this_tongue_words v_this_tongue_roads f_this_tongue_kinds f_this_tongue_sets f_this_tongue_weights f_this_tongue_stocks f_this_tongue_readers f_this_tongue_eighths f_this_tongue_wishes v_p1_tongue_words v_p1_tongue_roads f_p1_tongue_kinds f_p1_tongue_sets f_p1_tongue_weights f_p1_tongue_stocks f_p1_tongue_readers f_p1_tongue_eighths f_p1_tongue_wishes (fun o1_0 o1_1 o1_2 o1_3 o1_4 o1_5 o1_6 o1_7 o1_8 => 
     wp_X4_copyFrom N v_this_ring_places f_this_ring_has v_p1_ring_places f_p1_ring_has (fun o2_0 o2_1 => 
     wp_X3_copyFrom N v_this_pairs_many f_this_pairs_ones f_this_pairs_others v_p1_pairs_many f_p1_pairs_ones f_p1_pairs_others (fun o3_0 o3_1 o3_2 => 
     Φ o1_0 o1_1 o1_2 o1_3 o1_4 o1_5 o1_6 o1_7 o1_8 o2_0 o2_1 o3_0 o3_1 o3_2)))
abbrev zW_X9_copyFrom (cI cC cS : ClassId) (q_this : Nat) (q_this_tongue : Nat) (q_this_tongue_kinds : Nat) (q_this_tongue_sets : Nat) (q_this_tongue_weights : Nat) (q_this_tongue_stocks : Nat) (q_this_tongue_readers : Nat) (q_this_tongue_eighths : Nat) (q_this_tongue_wishes : Nat) (q_this_ring : Nat) (q_this_ring_has : Nat) (q_this_pairs : Nat) (q_this_pairs_ones : Nat) (q_this_pairs_others : Nat) (q_p1 : Nat) (q_p1_tongue : Nat) (q_p1_tongue_kinds : Nat) (q_p1_tongue_sets : Nat) (q_p1_tongue_weights : Nat) (q_p1_tongue_stocks : Nat) (q_p1_tongue_readers : Nat) (q_p1_tongue_eighths : Nat) (q_p1_tongue_wishes : Nat) (q_p1_ring : Nat) (q_p1_ring_has : Nat) (q_p1_pairs : Nat) (q_p1_pairs_ones : Nat) (q_p1_pairs_others : Nat) (v_this_tongue_words : Int32) (v_this_tongue_roads : Int32) (f_this_tongue_kinds : Nat → Int32) (f_this_tongue_sets : Nat → Int32) (f_this_tongue_weights : Nat → Int32) (f_this_tongue_stocks : Nat → Int32) (f_this_tongue_readers : Nat → Int32) (f_this_tongue_eighths : Nat → Int32) (f_this_tongue_wishes : Nat → Int32) (v_this_ring_places : Int32) (f_this_ring_has : Nat → Int32) (v_this_pairs_many : Int32) (f_this_pairs_ones : Nat → Int32) (f_this_pairs_others : Nat → Int32) (v_p1_tongue_words : Int32) (v_p1_tongue_roads : Int32) (f_p1_tongue_kinds : Nat → Int32) (f_p1_tongue_sets : Nat → Int32) (f_p1_tongue_weights : Nat → Int32) (f_p1_tongue_stocks : Nat → Int32) (f_p1_tongue_readers : Nat → Int32) (f_p1_tongue_eighths : Nat → Int32) (f_p1_tongue_wishes : Nat → Int32) (v_p1_ring_places : Int32) (f_p1_ring_has : Nat → Int32) (v_p1_pairs_many : Int32) (f_p1_pairs_ones : Nat → Int32) (f_p1_pairs_others : Nat → Int32) : va_W := [(q_this, .inr (8, [.ref q_this_tongue, .ref q_this_ring, .ref q_this_pairs])),
  (q_this_tongue, .inr (7, [.ref q_this_tongue_kinds, .ref q_this_tongue_sets, .ref q_this_tongue_weights, .ref q_this_tongue_stocks, .int v_this_tongue_words, .ref q_this_tongue_readers, .ref q_this_tongue_eighths, .ref q_this_tongue_wishes, .int v_this_tongue_roads])),
  (q_this_tongue_kinds, .inl (cI, 6, .inl f_this_tongue_kinds)),
  (q_this_tongue_sets, .inl (cI, 6, .inl f_this_tongue_sets)),
  (q_this_tongue_weights, .inl (cI, 6, .inl f_this_tongue_weights)),
  (q_this_tongue_stocks, .inl (cI, 6, .inl f_this_tongue_stocks)),
  (q_this_tongue_readers, .inl (cI, 6, .inl f_this_tongue_readers)),
  (q_this_tongue_eighths, .inl (cI, 6, .inl f_this_tongue_eighths)),
  (q_this_tongue_wishes, .inl (cI, 6, .inl f_this_tongue_wishes)),
  (q_this_ring, .inr (4, [.ref q_this_ring_has, .int v_this_ring_places])),
  (q_this_ring_has, .inl (cI, 12, .inl f_this_ring_has)),
  (q_this_pairs, .inr (3, [.ref q_this_pairs_ones, .ref q_this_pairs_others, .int v_this_pairs_many])),
  (q_this_pairs_ones, .inl (cI, 12, .inl f_this_pairs_ones)),
  (q_this_pairs_others, .inl (cI, 12, .inl f_this_pairs_others)),
  (q_p1, .inr (8, [.ref q_p1_tongue, .ref q_p1_ring, .ref q_p1_pairs])),
  (q_p1_tongue, .inr (7, [.ref q_p1_tongue_kinds, .ref q_p1_tongue_sets, .ref q_p1_tongue_weights, .ref q_p1_tongue_stocks, .int v_p1_tongue_words, .ref q_p1_tongue_readers, .ref q_p1_tongue_eighths, .ref q_p1_tongue_wishes, .int v_p1_tongue_roads])),
  (q_p1_tongue_kinds, .inl (cI, 6, .inl f_p1_tongue_kinds)),
  (q_p1_tongue_sets, .inl (cI, 6, .inl f_p1_tongue_sets)),
  (q_p1_tongue_weights, .inl (cI, 6, .inl f_p1_tongue_weights)),
  (q_p1_tongue_stocks, .inl (cI, 6, .inl f_p1_tongue_stocks)),
  (q_p1_tongue_readers, .inl (cI, 6, .inl f_p1_tongue_readers)),
  (q_p1_tongue_eighths, .inl (cI, 6, .inl f_p1_tongue_eighths)),
  (q_p1_tongue_wishes, .inl (cI, 6, .inl f_p1_tongue_wishes)),
  (q_p1_ring, .inr (4, [.ref q_p1_ring_has, .int v_p1_ring_places])),
  (q_p1_ring_has, .inl (cI, 12, .inl f_p1_ring_has)),
  (q_p1_pairs, .inr (3, [.ref q_p1_pairs_ones, .ref q_p1_pairs_others, .int v_p1_pairs_many])),
  (q_p1_pairs_ones, .inl (cI, 12, .inl f_p1_pairs_ones)),
  (q_p1_pairs_others, .inl (cI, 12, .inl f_p1_pairs_others))]
abbrev zr_X9_copyFrom : Room := { frames := 2, cells := 0, slots := 0, locals := 81 }
set_option maxHeartbeats 4000000 in
set_option maxRecDepth 100000 in
theorem c_X9_copyFrom (l : Launch) (dC : Nat → ClassId) (dI : Nat → Nat → Nat) (cI cC cS : ClassId) (q_this : Nat) (q_this_tongue : Nat) (q_this_tongue_kinds : Nat) (q_this_tongue_sets : Nat) (q_this_tongue_weights : Nat) (q_this_tongue_stocks : Nat) (q_this_tongue_readers : Nat) (q_this_tongue_eighths : Nat) (q_this_tongue_wishes : Nat) (q_this_ring : Nat) (q_this_ring_has : Nat) (q_this_pairs : Nat) (q_this_pairs_ones : Nat) (q_this_pairs_others : Nat) (q_p1 : Nat) (q_p1_tongue : Nat) (q_p1_tongue_kinds : Nat) (q_p1_tongue_sets : Nat) (q_p1_tongue_weights : Nat) (q_p1_tongue_stocks : Nat) (q_p1_tongue_readers : Nat) (q_p1_tongue_eighths : Nat) (q_p1_tongue_wishes : Nat) (q_p1_ring : Nat) (q_p1_ring_has : Nat) (q_p1_pairs : Nat) (q_p1_pairs_ones : Nat) (q_p1_pairs_others : Nat) (sz : Nat) (v_this_tongue_words : Int32) (v_this_tongue_roads : Int32) (f_this_tongue_kinds : Nat → Int32) (f_this_tongue_sets : Nat → Int32) (f_this_tongue_weights : Nat → Int32) (f_this_tongue_stocks : Nat → Int32) (f_this_tongue_readers : Nat → Int32) (f_this_tongue_eighths : Nat → Int32) (f_this_tongue_wishes : Nat → Int32) (v_this_ring_places : Int32) (f_this_ring_has : Nat → Int32) (v_this_pairs_many : Int32) (f_this_pairs_ones : Nat → Int32) (f_this_pairs_others : Nat → Int32) (v_p1_tongue_words : Int32) (v_p1_tongue_roads : Int32) (f_p1_tongue_kinds : Nat → Int32) (f_p1_tongue_sets : Nat → Int32) (f_p1_tongue_weights : Nat → Int32) (f_p1_tongue_stocks : Nat → Int32) (f_p1_tongue_readers : Nat → Int32) (f_p1_tongue_eighths : Nat → Int32) (f_p1_tongue_wishes : Nat → Int32) (v_p1_ring_places : Int32) (f_p1_ring_has : Nat → Int32) (v_p1_pairs_many : Int32) (f_p1_pairs_ones : Nat → Int32) (f_p1_pairs_others : Nat → Int32) (N : Nat) (Φ : Int32 → Int32 → (Nat → Int32) → (Nat → Int32) → (Nat → Int32) → (Nat → Int32) → (Nat → Int32) → (Nat → Int32) → (Nat → Int32) → Int32 → (Nat → Int32) → Int32 → (Nat → Int32) → (Nat → Int32) → Prop)  (hf : wp_X9_copyFrom N v_this_tongue_words v_this_tongue_roads f_this_tongue_kinds f_this_tongue_sets f_this_tongue_weights f_this_tongue_stocks f_this_tongue_readers f_this_tongue_eighths f_this_tongue_wishes v_this_ring_places f_this_ring_has v_this_pairs_many f_this_pairs_ones f_this_pairs_others v_p1_tongue_words v_p1_tongue_roads f_p1_tongue_kinds f_p1_tongue_sets f_p1_tongue_weights f_p1_tongue_stocks f_p1_tongue_readers f_p1_tongue_eighths f_p1_tongue_wishes v_p1_ring_places f_p1_ring_has v_p1_pairs_many f_p1_pairs_ones f_p1_pairs_others Φ) : Met l yX9_copyFrom wsX9_copyFrom zr_X9_copyFrom (zPc (dC, dI) (zT cI cC cS) [.ref q_this, .ref q_p1] sz (zW_X9_copyFrom cI cC cS q_this q_this_tongue q_this_tongue_kinds q_this_tongue_sets q_this_tongue_weights q_this_tongue_stocks q_this_tongue_readers q_this_tongue_eighths q_this_tongue_wishes q_this_ring q_this_ring_has q_this_pairs q_this_pairs_ones q_this_pairs_others q_p1 q_p1_tongue q_p1_tongue_kinds q_p1_tongue_sets q_p1_tongue_weights q_p1_tongue_stocks q_p1_tongue_readers q_p1_tongue_eighths q_p1_tongue_wishes q_p1_ring q_p1_ring_has q_p1_pairs q_p1_pairs_ones q_p1_pairs_others v_this_tongue_words v_this_tongue_roads f_this_tongue_kinds f_this_tongue_sets f_this_tongue_weights f_this_tongue_stocks f_this_tongue_readers f_this_tongue_eighths f_this_tongue_wishes v_this_ring_places f_this_ring_has v_this_pairs_many f_this_pairs_ones f_this_pairs_others v_p1_tongue_words v_p1_tongue_roads f_p1_tongue_kinds f_p1_tongue_sets f_p1_tongue_weights f_p1_tongue_stocks f_p1_tongue_readers f_p1_tongue_eighths f_p1_tongue_wishes v_p1_ring_places f_p1_ring_has v_p1_pairs_many f_p1_pairs_ones f_p1_pairs_others)) (zQv (dC, dI) (zT cI cC cS) (va_A (zW_X9_copyFrom cI cC cS q_this q_this_tongue q_this_tongue_kinds q_this_tongue_sets q_this_tongue_weights q_this_tongue_stocks q_this_tongue_readers q_this_tongue_eighths q_this_tongue_wishes q_this_ring q_this_ring_has q_this_pairs q_this_pairs_ones q_this_pairs_others q_p1 q_p1_tongue q_p1_tongue_kinds q_p1_tongue_sets q_p1_tongue_weights q_p1_tongue_stocks q_p1_tongue_readers q_p1_tongue_eighths q_p1_tongue_wishes q_p1_ring q_p1_ring_has q_p1_pairs q_p1_pairs_ones q_p1_pairs_others v_this_tongue_words v_this_tongue_roads f_this_tongue_kinds f_this_tongue_sets f_this_tongue_weights f_this_tongue_stocks f_this_tongue_readers f_this_tongue_eighths f_this_tongue_wishes v_this_ring_places f_this_ring_has v_this_pairs_many f_this_pairs_ones f_this_pairs_others v_p1_tongue_words v_p1_tongue_roads f_p1_tongue_kinds f_p1_tongue_sets f_p1_tongue_weights f_p1_tongue_stocks f_p1_tongue_readers f_p1_tongue_eighths f_p1_tongue_wishes v_p1_ring_places f_p1_ring_has v_p1_pairs_many f_p1_pairs_ones f_p1_pairs_others) sz) (fun (u : (Int32) × (Int32) × (Nat → Int32) × (Nat → Int32) × (Nat → Int32) × (Nat → Int32) × (Nat → Int32) × (Nat → Int32) × (Nat → Int32) × (Int32) × (Nat → Int32) × (Int32) × (Nat → Int32) × (Nat → Int32)) => Φ u.1 u.2.1 u.2.2.1 u.2.2.2.1 u.2.2.2.2.1 u.2.2.2.2.2.1 u.2.2.2.2.2.2.1 u.2.2.2.2.2.2.2.1 u.2.2.2.2.2.2.2.2.1 u.2.2.2.2.2.2.2.2.2.1 u.2.2.2.2.2.2.2.2.2.2.1 u.2.2.2.2.2.2.2.2.2.2.2.1 u.2.2.2.2.2.2.2.2.2.2.2.2.1 u.2.2.2.2.2.2.2.2.2.2.2.2.2) (fun u => (zW_X9_copyFrom cI cC cS q_this q_this_tongue q_this_tongue_kinds q_this_tongue_sets q_this_tongue_weights q_this_tongue_stocks q_this_tongue_readers q_this_tongue_eighths q_this_tongue_wishes q_this_ring q_this_ring_has q_this_pairs q_this_pairs_ones q_this_pairs_others q_p1 q_p1_tongue q_p1_tongue_kinds q_p1_tongue_sets q_p1_tongue_weights q_p1_tongue_stocks q_p1_tongue_readers q_p1_tongue_eighths q_p1_tongue_wishes q_p1_ring q_p1_ring_has q_p1_pairs q_p1_pairs_ones q_p1_pairs_others u.1 u.2.1 u.2.2.1 u.2.2.2.1 u.2.2.2.2.1 u.2.2.2.2.2.1 u.2.2.2.2.2.2.1 u.2.2.2.2.2.2.2.1 u.2.2.2.2.2.2.2.2.1 u.2.2.2.2.2.2.2.2.2.1 u.2.2.2.2.2.2.2.2.2.2.1 u.2.2.2.2.2.2.2.2.2.2.2.1 u.2.2.2.2.2.2.2.2.2.2.2.2.1 u.2.2.2.2.2.2.2.2.2.2.2.2.2 v_p1_tongue_words v_p1_tongue_roads f_p1_tongue_kinds f_p1_tongue_sets f_p1_tongue_weights f_p1_tongue_stocks f_p1_tongue_readers f_p1_tongue_eighths f_p1_tongue_wishes v_p1_ring_places f_p1_ring_has v_p1_pairs_many f_p1_pairs_ones f_p1_pairs_others))) 0 0 (va_A (zW_X9_copyFrom cI cC cS q_this q_this_tongue q_this_tongue_kinds q_this_tongue_sets q_this_tongue_weights q_this_tongue_stocks q_this_tongue_readers q_this_tongue_eighths q_this_tongue_wishes q_this_ring q_this_ring_has q_this_pairs q_this_pairs_ones q_this_pairs_others q_p1 q_p1_tongue q_p1_tongue_kinds q_p1_tongue_sets q_p1_tongue_weights q_p1_tongue_stocks q_p1_tongue_readers q_p1_tongue_eighths q_p1_tongue_wishes q_p1_ring q_p1_ring_has q_p1_pairs q_p1_pairs_ones q_p1_pairs_others v_this_tongue_words v_this_tongue_roads f_this_tongue_kinds f_this_tongue_sets f_this_tongue_weights f_this_tongue_stocks f_this_tongue_readers f_this_tongue_eighths f_this_tongue_wishes v_this_ring_places f_this_ring_has v_this_pairs_many f_this_pairs_ones f_this_pairs_others v_p1_tongue_words v_p1_tongue_roads f_p1_tongue_kinds f_p1_tongue_sets f_p1_tongue_weights f_p1_tongue_stocks f_p1_tongue_readers f_p1_tongue_eighths f_p1_tongue_wishes v_p1_ring_places f_p1_ring_has v_p1_pairs_many f_p1_pairs_ones f_p1_pairs_others) sz) := by
  refine Met.ofW (cc := cX9_copyFrom) (maxL := 2) (ret := none) (by decide) rfl ?_
  intro p e s m args below meth c s₁ B hml hv
  obtain ⟨rfl, hsz, hP, hK, hD0⟩ := hv
  have hx := B.exec
  have hb := B.bytes
  have hr := B.returns
  have hts := atoms_spec (ws := wsX9_copyFrom) B.pre
  have hown : s.vm.findClass RX9 = some m.cls := findClass_of_methodNamed B.named
  have hlocks := B.notSynchronized
  subst hsz
  have hD := hD0.self (sz := s.heap.size)
  have hA : ∀ q : Nat, s.heap.size ≤ q → va_A (zW_X9_copyFrom cI cC cS q_this q_this_tongue q_this_tongue_kinds q_this_tongue_sets q_this_tongue_weights q_this_tongue_stocks q_this_tongue_readers q_this_tongue_eighths q_this_tongue_wishes q_this_ring q_this_ring_has q_this_pairs q_this_pairs_ones q_this_pairs_others q_p1 q_p1_tongue q_p1_tongue_kinds q_p1_tongue_sets q_p1_tongue_weights q_p1_tongue_stocks q_p1_tongue_readers q_p1_tongue_eighths q_p1_tongue_wishes q_p1_ring q_p1_ring_has q_p1_pairs q_p1_pairs_ones q_p1_pairs_others v_this_tongue_words v_this_tongue_roads f_this_tongue_kinds f_this_tongue_sets f_this_tongue_weights f_this_tongue_stocks f_this_tongue_readers f_this_tongue_eighths f_this_tongue_wishes v_this_ring_places f_this_ring_has v_this_pairs_many f_this_pairs_ones f_this_pairs_others v_p1_tongue_words v_p1_tongue_roads f_p1_tongue_kinds f_p1_tongue_sets f_p1_tongue_weights f_p1_tongue_stocks f_p1_tongue_readers f_p1_tongue_eighths f_p1_tongue_wishes v_p1_ring_places f_p1_ring_has v_p1_pairs_many f_p1_pairs_ones f_p1_pairs_others) s.heap.size q := fun q h => Or.inr h
  generalize va_A (zW_X9_copyFrom cI cC cS q_this q_this_tongue q_this_tongue_kinds q_this_tongue_sets q_this_tongue_weights q_this_tongue_stocks q_this_tongue_readers q_this_tongue_eighths q_this_tongue_wishes q_this_ring q_this_ring_has q_this_pairs q_this_pairs_ones q_this_pairs_others q_p1 q_p1_tongue q_p1_tongue_kinds q_p1_tongue_sets q_p1_tongue_weights q_p1_tongue_stocks q_p1_tongue_readers q_p1_tongue_eighths q_p1_tongue_wishes q_p1_ring q_p1_ring_has q_p1_pairs q_p1_pairs_ones q_p1_pairs_others v_this_tongue_words v_this_tongue_roads f_this_tongue_kinds f_this_tongue_sets f_this_tongue_weights f_this_tongue_stocks f_this_tongue_readers f_this_tongue_eighths f_this_tongue_wishes v_this_ring_places f_this_ring_has v_this_pairs_many f_this_pairs_ones f_this_pairs_others v_p1_tongue_words v_p1_tongue_roads f_p1_tongue_kinds f_p1_tongue_sets f_p1_tongue_weights f_p1_tongue_stocks f_p1_tongue_readers f_p1_tongue_eighths f_p1_tongue_wishes v_p1_ring_places f_p1_ring_has v_p1_pairs_many f_p1_pairs_ones f_p1_pairs_others) s.heap.size = A at hD hA ⊢
  have hS : va_S A s.heap s.heap [] := va_S.rf
  have hl := lv_entry ([.ref q_this, .ref q_p1]) (n := 2) (Nat.le_of_ble_eq_true rfl)
  rw [lg_entry_eq]
  generalize (lg_sl ([.ref q_this, .ref q_p1]) ++ List.replicate (2 - (lg_sl ([.ref q_this, .ref q_p1])).length) Slot.unset).toArray = ls at hl ⊢
  have hl : lv_has ls 2 [(0, .ref q_this), (1, .ref q_p1)] := hl
  have lk1 := hts (.fieldLink RX9 10 "ReadFromAnywhere$World" "tongue" "LReadFromAnywhere$Tongue;") (List.mem_of_getElem? (i := 1) rfl)
  have inX9 : ∀ w ∈ u_ws RX9 TX9 3, w ∈ wsX9_copyFrom := fun _ h => List.mem_cons_of_mem _ (List.mem_append_left _ (List.mem_append_left _ (List.mem_append_left _ (List.mem_append_right _ h))))
  have lk2 := hts (.fieldLink RX9 19 "ReadFromAnywhere$World" "ring" "LReadFromAnywhere$Ring;") (List.mem_of_getElem? (i := 2) rfl)
  have lk3 := hts (.fieldLink RX9 26 "ReadFromAnywhere$World" "pairs" "LReadFromAnywhere$Pairs;") (List.mem_of_getElem? (i := 3) rfl)
  unfold wp_X9_copyFrom at hf
  refine lv_aload_n hx hb dX9_copyFrom_0 rfl (lv_at hl 0 rfl) ?_
  refine va_get (D := (dC, dI)) (ci := 8) (v := .ref q_this_tongue) (C := RX9) (T := TX9) (N := 3) hx hb hts inX9 hown hK hP 0 rfl rfl 0 (by decide) lk1 (fun _ h9 => h9) rfl dX9_copyFrom_1 ?_
  refine lv_aload_n hx hb dX9_copyFrom_4 rfl (lv_at hl 1 rfl) ?_
  refine va_get (D := (dC, dI)) (ci := 8) (v := .ref q_p1_tongue) (C := RX9) (T := TX9) (N := 3) hx hb hts inX9 hown hK hP 14 rfl rfl 0 (by decide) lk1 (fun _ h9 => h9) rfl dX9_copyFrom_5 ?_
  refine z_Vv (n := 1) (As := [.ref q_p1_tongue]) (rest := []) ⟨hx, hb, hml, hown, hts⟩ (c_X8_copyFrom l dC dI cI cC cS q_this_tongue q_this_tongue_kinds q_this_tongue_sets q_this_tongue_weights q_this_tongue_stocks q_this_tongue_readers q_this_tongue_eighths q_this_tongue_wishes q_p1_tongue q_p1_tongue_kinds q_p1_tongue_sets q_p1_tongue_weights q_p1_tongue_stocks q_p1_tongue_readers q_p1_tongue_eighths q_p1_tongue_wishes _ v_this_tongue_words v_this_tongue_roads f_this_tongue_kinds f_this_tongue_sets f_this_tongue_weights f_this_tongue_stocks f_this_tongue_readers f_this_tongue_eighths f_this_tongue_wishes v_p1_tongue_words v_p1_tongue_roads f_p1_tongue_kinds f_p1_tongue_sets f_p1_tongue_weights f_p1_tongue_stocks f_p1_tongue_readers f_p1_tongue_eighths f_p1_tongue_wishes  N _  hf) gX9_copyFrom_X8_copyFrom rfl rfl rfl (by decide +kernel) ⟨Nat.le_of_ble_eq_true rfl, Nat.le_of_ble_eq_true rfl⟩ hK hP hD hS hA 1 7 rfl rfl rfl hl.1 rfl (Nat.le_of_ble_eq_true rfl) dX9_copyFrom_8 ⟨Nat.zero_le _, Nat.zero_le _⟩ [1, 2, 3, 4, 5, 6, 7, 8, 15, 16, 17, 18, 19, 20, 21, 22] [0, 9, 10, 11, 12, 13, 14, 23, 24, 25, 26, 27] (([(q_this, .inr (8, [.ref q_this_tongue, .ref q_this_ring, .ref q_this_pairs])), (q_this_ring, .inr (4, [.ref q_this_ring_has, .int v_this_ring_places])), (q_this_ring_has, .inl (cI, 12, .inl f_this_ring_has)), (q_this_pairs, .inr (3, [.ref q_this_pairs_ones, .ref q_this_pairs_others, .int v_this_pairs_many])), (q_this_pairs_ones, .inl (cI, 12, .inl f_this_pairs_ones)), (q_this_pairs_others, .inl (cI, 12, .inl f_this_pairs_others)), (q_p1, .inr (8, [.ref q_p1_tongue, .ref q_p1_ring, .ref q_p1_pairs])), (q_p1_ring, .inr (4, [.ref q_p1_ring_has, .int v_p1_ring_places])), (q_p1_ring_has, .inl (cI, 12, .inl f_p1_ring_has)), (q_p1_pairs, .inr (3, [.ref q_p1_pairs_ones, .ref q_p1_pairs_others, .int v_p1_pairs_many])), (q_p1_pairs_ones, .inl (cI, 12, .inl f_p1_pairs_ones)), (q_p1_pairs_others, .inl (cI, 12, .inl f_p1_pairs_others))] : va_W)) rfl rfl (by decide) (by decide) (by decide) (fun u => (zW_X9_copyFrom cI cC cS q_this q_this_tongue q_this_tongue_kinds q_this_tongue_sets q_this_tongue_weights q_this_tongue_stocks q_this_tongue_readers q_this_tongue_eighths q_this_tongue_wishes q_this_ring q_this_ring_has q_this_pairs q_this_pairs_ones q_this_pairs_others q_p1 q_p1_tongue q_p1_tongue_kinds q_p1_tongue_sets q_p1_tongue_weights q_p1_tongue_stocks q_p1_tongue_readers q_p1_tongue_eighths q_p1_tongue_wishes q_p1_ring q_p1_ring_has q_p1_pairs q_p1_pairs_ones q_p1_pairs_others u.1 u.2.1 u.2.2.1 u.2.2.2.1 u.2.2.2.2.1 u.2.2.2.2.2.1 u.2.2.2.2.2.2.1 u.2.2.2.2.2.2.2.1 u.2.2.2.2.2.2.2.2 v_this_ring_places f_this_ring_has v_this_pairs_many f_this_pairs_ones f_this_pairs_others v_p1_tongue_words v_p1_tongue_roads f_p1_tongue_kinds f_p1_tongue_sets f_p1_tongue_weights f_p1_tongue_stocks f_p1_tongue_readers f_p1_tongue_eighths f_p1_tongue_wishes v_p1_ring_places f_p1_ring_has v_p1_pairs_many f_p1_pairs_ones f_p1_pairs_others)) [0, 12, 13, 14, 15, 16, 17, 18, 19, 1, 2, 3, 4, 5, 6, 20, 21, 22, 23, 24, 25, 26, 27, 7, 8, 9, 10, 11] (fun u => rfl) (by decide) (fun u1 H locs hf hP hD hS => ?_)
  have hP : va_P (dC, dI) vwCl (zW_X9_copyFrom cI cC cS q_this q_this_tongue q_this_tongue_kinds q_this_tongue_sets q_this_tongue_weights q_this_tongue_stocks q_this_tongue_readers q_this_tongue_eighths q_this_tongue_wishes q_this_ring q_this_ring_has q_this_pairs q_this_pairs_ones q_this_pairs_others q_p1 q_p1_tongue q_p1_tongue_kinds q_p1_tongue_sets q_p1_tongue_weights q_p1_tongue_stocks q_p1_tongue_readers q_p1_tongue_eighths q_p1_tongue_wishes q_p1_ring q_p1_ring_has q_p1_pairs q_p1_pairs_ones q_p1_pairs_others u1.1 u1.2.1 u1.2.2.1 u1.2.2.2.1 u1.2.2.2.2.1 u1.2.2.2.2.2.1 u1.2.2.2.2.2.2.1 u1.2.2.2.2.2.2.2.1 u1.2.2.2.2.2.2.2.2 v_this_ring_places f_this_ring_has v_this_pairs_many f_this_pairs_ones f_this_pairs_others v_p1_tongue_words v_p1_tongue_roads f_p1_tongue_kinds f_p1_tongue_sets f_p1_tongue_weights f_p1_tongue_stocks f_p1_tongue_readers f_p1_tongue_eighths f_p1_tongue_wishes v_p1_ring_places f_p1_ring_has v_p1_pairs_many f_p1_pairs_ones f_p1_pairs_others) H := hP
  have hD : va_D A (zW_X9_copyFrom cI cC cS q_this q_this_tongue q_this_tongue_kinds q_this_tongue_sets q_this_tongue_weights q_this_tongue_stocks q_this_tongue_readers q_this_tongue_eighths q_this_tongue_wishes q_this_ring q_this_ring_has q_this_pairs q_this_pairs_ones q_this_pairs_others q_p1 q_p1_tongue q_p1_tongue_kinds q_p1_tongue_sets q_p1_tongue_weights q_p1_tongue_stocks q_p1_tongue_readers q_p1_tongue_eighths q_p1_tongue_wishes q_p1_ring q_p1_ring_has q_p1_pairs q_p1_pairs_ones q_p1_pairs_others u1.1 u1.2.1 u1.2.2.1 u1.2.2.2.1 u1.2.2.2.2.1 u1.2.2.2.2.2.1 u1.2.2.2.2.2.2.1 u1.2.2.2.2.2.2.2.1 u1.2.2.2.2.2.2.2.2 v_this_ring_places f_this_ring_has v_this_pairs_many f_this_pairs_ones f_this_pairs_others v_p1_tongue_words v_p1_tongue_roads f_p1_tongue_kinds f_p1_tongue_sets f_p1_tongue_weights f_p1_tongue_stocks f_p1_tongue_readers f_p1_tongue_eighths f_p1_tongue_wishes v_p1_ring_places f_p1_ring_has v_p1_pairs_many f_p1_pairs_ones f_p1_pairs_others) := hD
  refine lv_aload_n hx hb dX9_copyFrom_11 rfl (lv_at hl 0 rfl) ?_
  refine va_get (D := (dC, dI)) (ci := 8) (v := .ref q_this_ring) (C := RX9) (T := TX9) (N := 3) hx hb hts inX9 hown hK hP 0 rfl rfl 1 (by decide) lk2 (fun _ h9 => h9) rfl dX9_copyFrom_12 ?_
  refine lv_aload_n hx hb dX9_copyFrom_15 rfl (lv_at hl 1 rfl) ?_
  refine va_get (D := (dC, dI)) (ci := 8) (v := .ref q_p1_ring) (C := RX9) (T := TX9) (N := 3) hx hb hts inX9 hown hK hP 14 rfl rfl 1 (by decide) lk2 (fun _ h9 => h9) rfl dX9_copyFrom_16 ?_
  refine z_Vv (n := 1) (As := [.ref q_p1_ring]) (rest := []) ⟨hx, hb, hml, hown, hts⟩ (c_X4_copyFrom l dC dI cI cC cS q_this_ring q_this_ring_has q_p1_ring q_p1_ring_has _ v_this_ring_places f_this_ring_has v_p1_ring_places f_p1_ring_has  N _  hf) gX9_copyFrom_X4_copyFrom rfl rfl rfl (by decide +kernel) ⟨Nat.le_of_ble_eq_true rfl, Nat.le_of_ble_eq_true rfl⟩ hK hP hD hS hA 9 4 rfl rfl rfl hl.1 rfl (Nat.le_of_ble_eq_true rfl) dX9_copyFrom_19 ⟨Nat.zero_le _, Nat.zero_le _⟩ [9, 10, 23, 24] [0, 1, 2, 3, 4, 5, 6, 7, 8, 11, 12, 13, 14, 15, 16, 17, 18, 19, 20, 21, 22, 25, 26, 27] (([(q_this, .inr (8, [.ref q_this_tongue, .ref q_this_ring, .ref q_this_pairs])), (q_this_tongue, .inr (7, [.ref q_this_tongue_kinds, .ref q_this_tongue_sets, .ref q_this_tongue_weights, .ref q_this_tongue_stocks, .int u1.1, .ref q_this_tongue_readers, .ref q_this_tongue_eighths, .ref q_this_tongue_wishes, .int u1.2.1])), (q_this_tongue_kinds, .inl (cI, 6, .inl u1.2.2.1)), (q_this_tongue_sets, .inl (cI, 6, .inl u1.2.2.2.1)), (q_this_tongue_weights, .inl (cI, 6, .inl u1.2.2.2.2.1)), (q_this_tongue_stocks, .inl (cI, 6, .inl u1.2.2.2.2.2.1)), (q_this_tongue_readers, .inl (cI, 6, .inl u1.2.2.2.2.2.2.1)), (q_this_tongue_eighths, .inl (cI, 6, .inl u1.2.2.2.2.2.2.2.1)), (q_this_tongue_wishes, .inl (cI, 6, .inl u1.2.2.2.2.2.2.2.2)), (q_this_pairs, .inr (3, [.ref q_this_pairs_ones, .ref q_this_pairs_others, .int v_this_pairs_many])), (q_this_pairs_ones, .inl (cI, 12, .inl f_this_pairs_ones)), (q_this_pairs_others, .inl (cI, 12, .inl f_this_pairs_others)), (q_p1, .inr (8, [.ref q_p1_tongue, .ref q_p1_ring, .ref q_p1_pairs])), (q_p1_tongue, .inr (7, [.ref q_p1_tongue_kinds, .ref q_p1_tongue_sets, .ref q_p1_tongue_weights, .ref q_p1_tongue_stocks, .int v_p1_tongue_words, .ref q_p1_tongue_readers, .ref q_p1_tongue_eighths, .ref q_p1_tongue_wishes, .int v_p1_tongue_roads])), (q_p1_tongue_kinds, .inl (cI, 6, .inl f_p1_tongue_kinds)), (q_p1_tongue_sets, .inl (cI, 6, .inl f_p1_tongue_sets)), (q_p1_tongue_weights, .inl (cI, 6, .inl f_p1_tongue_weights)), (q_p1_tongue_stocks, .inl (cI, 6, .inl f_p1_tongue_stocks)), (q_p1_tongue_readers, .inl (cI, 6, .inl f_p1_tongue_readers)), (q_p1_tongue_eighths, .inl (cI, 6, .inl f_p1_tongue_eighths)), (q_p1_tongue_wishes, .inl (cI, 6, .inl f_p1_tongue_wishes)), (q_p1_pairs, .inr (3, [.ref q_p1_pairs_ones, .ref q_p1_pairs_others, .int v_p1_pairs_many])), (q_p1_pairs_ones, .inl (cI, 12, .inl f_p1_pairs_ones)), (q_p1_pairs_others, .inl (cI, 12, .inl f_p1_pairs_others))] : va_W)) rfl rfl (by decide) (by decide) (by decide) (fun u => (zW_X9_copyFrom cI cC cS q_this q_this_tongue q_this_tongue_kinds q_this_tongue_sets q_this_tongue_weights q_this_tongue_stocks q_this_tongue_readers q_this_tongue_eighths q_this_tongue_wishes q_this_ring q_this_ring_has q_this_pairs q_this_pairs_ones q_this_pairs_others q_p1 q_p1_tongue q_p1_tongue_kinds q_p1_tongue_sets q_p1_tongue_weights q_p1_tongue_stocks q_p1_tongue_readers q_p1_tongue_eighths q_p1_tongue_wishes q_p1_ring q_p1_ring_has q_p1_pairs q_p1_pairs_ones q_p1_pairs_others u1.1 u1.2.1 u1.2.2.1 u1.2.2.2.1 u1.2.2.2.2.1 u1.2.2.2.2.2.1 u1.2.2.2.2.2.2.1 u1.2.2.2.2.2.2.2.1 u1.2.2.2.2.2.2.2.2 u.1 u.2 v_this_pairs_many f_this_pairs_ones f_this_pairs_others v_p1_tongue_words v_p1_tongue_roads f_p1_tongue_kinds f_p1_tongue_sets f_p1_tongue_weights f_p1_tongue_stocks f_p1_tongue_readers f_p1_tongue_eighths f_p1_tongue_wishes v_p1_ring_places f_p1_ring_has v_p1_pairs_many f_p1_pairs_ones f_p1_pairs_others)) [0, 1, 2, 3, 4, 5, 6, 7, 8, 24, 25, 9, 10, 11, 12, 13, 14, 15, 16, 17, 18, 19, 20, 26, 27, 21, 22, 23] (fun u => rfl) (by decide) (fun u2 H locs hf hP hD hS => ?_)
  have hP : va_P (dC, dI) vwCl (zW_X9_copyFrom cI cC cS q_this q_this_tongue q_this_tongue_kinds q_this_tongue_sets q_this_tongue_weights q_this_tongue_stocks q_this_tongue_readers q_this_tongue_eighths q_this_tongue_wishes q_this_ring q_this_ring_has q_this_pairs q_this_pairs_ones q_this_pairs_others q_p1 q_p1_tongue q_p1_tongue_kinds q_p1_tongue_sets q_p1_tongue_weights q_p1_tongue_stocks q_p1_tongue_readers q_p1_tongue_eighths q_p1_tongue_wishes q_p1_ring q_p1_ring_has q_p1_pairs q_p1_pairs_ones q_p1_pairs_others u1.1 u1.2.1 u1.2.2.1 u1.2.2.2.1 u1.2.2.2.2.1 u1.2.2.2.2.2.1 u1.2.2.2.2.2.2.1 u1.2.2.2.2.2.2.2.1 u1.2.2.2.2.2.2.2.2 u2.1 u2.2 v_this_pairs_many f_this_pairs_ones f_this_pairs_others v_p1_tongue_words v_p1_tongue_roads f_p1_tongue_kinds f_p1_tongue_sets f_p1_tongue_weights f_p1_tongue_stocks f_p1_tongue_readers f_p1_tongue_eighths f_p1_tongue_wishes v_p1_ring_places f_p1_ring_has v_p1_pairs_many f_p1_pairs_ones f_p1_pairs_others) H := hP
  have hD : va_D A (zW_X9_copyFrom cI cC cS q_this q_this_tongue q_this_tongue_kinds q_this_tongue_sets q_this_tongue_weights q_this_tongue_stocks q_this_tongue_readers q_this_tongue_eighths q_this_tongue_wishes q_this_ring q_this_ring_has q_this_pairs q_this_pairs_ones q_this_pairs_others q_p1 q_p1_tongue q_p1_tongue_kinds q_p1_tongue_sets q_p1_tongue_weights q_p1_tongue_stocks q_p1_tongue_readers q_p1_tongue_eighths q_p1_tongue_wishes q_p1_ring q_p1_ring_has q_p1_pairs q_p1_pairs_ones q_p1_pairs_others u1.1 u1.2.1 u1.2.2.1 u1.2.2.2.1 u1.2.2.2.2.1 u1.2.2.2.2.2.1 u1.2.2.2.2.2.2.1 u1.2.2.2.2.2.2.2.1 u1.2.2.2.2.2.2.2.2 u2.1 u2.2 v_this_pairs_many f_this_pairs_ones f_this_pairs_others v_p1_tongue_words v_p1_tongue_roads f_p1_tongue_kinds f_p1_tongue_sets f_p1_tongue_weights f_p1_tongue_stocks f_p1_tongue_readers f_p1_tongue_eighths f_p1_tongue_wishes v_p1_ring_places f_p1_ring_has v_p1_pairs_many f_p1_pairs_ones f_p1_pairs_others) := hD
  refine lv_aload_n hx hb dX9_copyFrom_22 rfl (lv_at hl 0 rfl) ?_
  refine va_get (D := (dC, dI)) (ci := 8) (v := .ref q_this_pairs) (C := RX9) (T := TX9) (N := 3) hx hb hts inX9 hown hK hP 0 rfl rfl 2 (by decide) lk3 (fun _ h9 => h9) rfl dX9_copyFrom_23 ?_
  refine lv_aload_n hx hb dX9_copyFrom_26 rfl (lv_at hl 1 rfl) ?_
  refine va_get (D := (dC, dI)) (ci := 8) (v := .ref q_p1_pairs) (C := RX9) (T := TX9) (N := 3) hx hb hts inX9 hown hK hP 14 rfl rfl 2 (by decide) lk3 (fun _ h9 => h9) rfl dX9_copyFrom_27 ?_
  refine z_Vv (n := 1) (As := [.ref q_p1_pairs]) (rest := []) ⟨hx, hb, hml, hown, hts⟩ (c_X3_copyFrom l dC dI cI cC cS q_this_pairs q_this_pairs_ones q_this_pairs_others q_p1_pairs q_p1_pairs_ones q_p1_pairs_others _ v_this_pairs_many f_this_pairs_ones f_this_pairs_others v_p1_pairs_many f_p1_pairs_ones f_p1_pairs_others  N _  hf) gX9_copyFrom_X3_copyFrom rfl rfl rfl (by decide +kernel) ⟨Nat.le_of_ble_eq_true rfl, Nat.le_of_ble_eq_true rfl⟩ hK hP hD hS hA 11 3 rfl rfl rfl hl.1 rfl (Nat.le_of_ble_eq_true rfl) dX9_copyFrom_30 ⟨Nat.zero_le _, Nat.zero_le _⟩ [11, 12, 13, 25, 26, 27] [0, 1, 2, 3, 4, 5, 6, 7, 8, 9, 10, 14, 15, 16, 17, 18, 19, 20, 21, 22, 23, 24] (([(q_this, .inr (8, [.ref q_this_tongue, .ref q_this_ring, .ref q_this_pairs])), (q_this_tongue, .inr (7, [.ref q_this_tongue_kinds, .ref q_this_tongue_sets, .ref q_this_tongue_weights, .ref q_this_tongue_stocks, .int u1.1, .ref q_this_tongue_readers, .ref q_this_tongue_eighths, .ref q_this_tongue_wishes, .int u1.2.1])), (q_this_tongue_kinds, .inl (cI, 6, .inl u1.2.2.1)), (q_this_tongue_sets, .inl (cI, 6, .inl u1.2.2.2.1)), (q_this_tongue_weights, .inl (cI, 6, .inl u1.2.2.2.2.1)), (q_this_tongue_stocks, .inl (cI, 6, .inl u1.2.2.2.2.2.1)), (q_this_tongue_readers, .inl (cI, 6, .inl u1.2.2.2.2.2.2.1)), (q_this_tongue_eighths, .inl (cI, 6, .inl u1.2.2.2.2.2.2.2.1)), (q_this_tongue_wishes, .inl (cI, 6, .inl u1.2.2.2.2.2.2.2.2)), (q_this_ring, .inr (4, [.ref q_this_ring_has, .int u2.1])), (q_this_ring_has, .inl (cI, 12, .inl u2.2)), (q_p1, .inr (8, [.ref q_p1_tongue, .ref q_p1_ring, .ref q_p1_pairs])), (q_p1_tongue, .inr (7, [.ref q_p1_tongue_kinds, .ref q_p1_tongue_sets, .ref q_p1_tongue_weights, .ref q_p1_tongue_stocks, .int v_p1_tongue_words, .ref q_p1_tongue_readers, .ref q_p1_tongue_eighths, .ref q_p1_tongue_wishes, .int v_p1_tongue_roads])), (q_p1_tongue_kinds, .inl (cI, 6, .inl f_p1_tongue_kinds)), (q_p1_tongue_sets, .inl (cI, 6, .inl f_p1_tongue_sets)), (q_p1_tongue_weights, .inl (cI, 6, .inl f_p1_tongue_weights)), (q_p1_tongue_stocks, .inl (cI, 6, .inl f_p1_tongue_stocks)), (q_p1_tongue_readers, .inl (cI, 6, .inl f_p1_tongue_readers)), (q_p1_tongue_eighths, .inl (cI, 6, .inl f_p1_tongue_eighths)), (q_p1_tongue_wishes, .inl (cI, 6, .inl f_p1_tongue_wishes)), (q_p1_ring, .inr (4, [.ref q_p1_ring_has, .int v_p1_ring_places])), (q_p1_ring_has, .inl (cI, 12, .inl f_p1_ring_has))] : va_W)) rfl rfl (by decide) (by decide) (by decide) (fun u => (zW_X9_copyFrom cI cC cS q_this q_this_tongue q_this_tongue_kinds q_this_tongue_sets q_this_tongue_weights q_this_tongue_stocks q_this_tongue_readers q_this_tongue_eighths q_this_tongue_wishes q_this_ring q_this_ring_has q_this_pairs q_this_pairs_ones q_this_pairs_others q_p1 q_p1_tongue q_p1_tongue_kinds q_p1_tongue_sets q_p1_tongue_weights q_p1_tongue_stocks q_p1_tongue_readers q_p1_tongue_eighths q_p1_tongue_wishes q_p1_ring q_p1_ring_has q_p1_pairs q_p1_pairs_ones q_p1_pairs_others u1.1 u1.2.1 u1.2.2.1 u1.2.2.2.1 u1.2.2.2.2.1 u1.2.2.2.2.2.1 u1.2.2.2.2.2.2.1 u1.2.2.2.2.2.2.2.1 u1.2.2.2.2.2.2.2.2 u2.1 u2.2 u.1 u.2.1 u.2.2 v_p1_tongue_words v_p1_tongue_roads f_p1_tongue_kinds f_p1_tongue_sets f_p1_tongue_weights f_p1_tongue_stocks f_p1_tongue_readers f_p1_tongue_eighths f_p1_tongue_wishes v_p1_ring_places f_p1_ring_has v_p1_pairs_many f_p1_pairs_ones f_p1_pairs_others)) [0, 1, 2, 3, 4, 5, 6, 7, 8, 9, 10, 22, 23, 24, 11, 12, 13, 14, 15, 16, 17, 18, 19, 20, 21, 25, 26, 27] (fun u => rfl) (by decide) (fun u3 H locs hf hP hD hS => ?_)
  have hP : va_P (dC, dI) vwCl (zW_X9_copyFrom cI cC cS q_this q_this_tongue q_this_tongue_kinds q_this_tongue_sets q_this_tongue_weights q_this_tongue_stocks q_this_tongue_readers q_this_tongue_eighths q_this_tongue_wishes q_this_ring q_this_ring_has q_this_pairs q_this_pairs_ones q_this_pairs_others q_p1 q_p1_tongue q_p1_tongue_kinds q_p1_tongue_sets q_p1_tongue_weights q_p1_tongue_stocks q_p1_tongue_readers q_p1_tongue_eighths q_p1_tongue_wishes q_p1_ring q_p1_ring_has q_p1_pairs q_p1_pairs_ones q_p1_pairs_others u1.1 u1.2.1 u1.2.2.1 u1.2.2.2.1 u1.2.2.2.2.1 u1.2.2.2.2.2.1 u1.2.2.2.2.2.2.1 u1.2.2.2.2.2.2.2.1 u1.2.2.2.2.2.2.2.2 u2.1 u2.2 u3.1 u3.2.1 u3.2.2 v_p1_tongue_words v_p1_tongue_roads f_p1_tongue_kinds f_p1_tongue_sets f_p1_tongue_weights f_p1_tongue_stocks f_p1_tongue_readers f_p1_tongue_eighths f_p1_tongue_wishes v_p1_ring_places f_p1_ring_has v_p1_pairs_many f_p1_pairs_ones f_p1_pairs_others) H := hP
  have hD : va_D A (zW_X9_copyFrom cI cC cS q_this q_this_tongue q_this_tongue_kinds q_this_tongue_sets q_this_tongue_weights q_this_tongue_stocks q_this_tongue_readers q_this_tongue_eighths q_this_tongue_wishes q_this_ring q_this_ring_has q_this_pairs q_this_pairs_ones q_this_pairs_others q_p1 q_p1_tongue q_p1_tongue_kinds q_p1_tongue_sets q_p1_tongue_weights q_p1_tongue_stocks q_p1_tongue_readers q_p1_tongue_eighths q_p1_tongue_wishes q_p1_ring q_p1_ring_has q_p1_pairs q_p1_pairs_ones q_p1_pairs_others u1.1 u1.2.1 u1.2.2.1 u1.2.2.2.1 u1.2.2.2.2.1 u1.2.2.2.2.2.1 u1.2.2.2.2.2.2.1 u1.2.2.2.2.2.2.2.1 u1.2.2.2.2.2.2.2.2 u2.1 u2.2 u3.1 u3.2.1 u3.2.2 v_p1_tongue_words v_p1_tongue_roads f_p1_tongue_kinds f_p1_tongue_sets f_p1_tongue_weights f_p1_tongue_stocks f_p1_tongue_readers f_p1_tongue_eighths f_p1_tongue_wishes v_p1_ring_places f_p1_ring_has v_p1_pairs_many f_p1_pairs_ones f_p1_pairs_others) := hD
  exact z_vret hx hb hr hlocks (u1.1, u1.2.1, u1.2.2.1, u1.2.2.2.1, u1.2.2.2.2.1, u1.2.2.2.2.2.1, u1.2.2.2.2.2.2.1, u1.2.2.2.2.2.2.2.1, u1.2.2.2.2.2.2.2.2, u2.1, u2.2, u3.1, u3.2.1, u3.2.2) hf hK hP hD hS dX9_copyFrom_33
def wp_X7_isDigit (N : Nat) (x0 : Int32) (Φ : Int32 → Prop) : Prop := 
    ((x0 < 48 → Φ 0) ∧
     (¬ (x0 < 48) → ((57 < x0 → Φ 0) ∧
     (¬ (57 < x0) → Φ 1))))
abbrev zW_X7_isDigit (cI cC cS : ClassId)  : va_W := []
abbrev zr_X7_isDigit : Room := { frames := 0, cells := 0, slots := 0, locals := 0 }
set_option maxHeartbeats 4000000 in
set_option maxRecDepth 100000 in
theorem c_X7_isDigit (l : Launch) (dC : Nat → ClassId) (dI : Nat → Nat → Nat) (cI cC cS : ClassId)  (sz : Nat) (x0 : Int32) (N : Nat) (Φ : Int32 → Prop)  (hf : wp_X7_isDigit N x0 Φ) : Met l yX7_isDigit wsX7_isDigit zr_X7_isDigit (zPc (dC, dI) (zT cI cC cS) [.int x0] sz (zW_X7_isDigit cI cC cS )) (zQi (dC, dI) (zT cI cC cS) (va_A (zW_X7_isDigit cI cC cS ) sz) (fun (r : Int32) (u : Unit) => Φ r) (fun u => (zW_X7_isDigit cI cC cS ))) 0 0 (va_A (zW_X7_isDigit cI cC cS ) sz) := by
  refine Met.ofW (cc := cX7_isDigit) (maxL := 1) (ret := (some .boolean)) (by decide) rfl ?_
  intro p e s m args below meth c s₁ B hml hv
  obtain ⟨rfl, hsz, hP, hK, hD0⟩ := hv
  have hx := B.exec
  have hb := B.bytes
  have hr := B.returns
  have hts := atoms_spec (ws := wsX7_isDigit) B.pre
  have hown : s.vm.findClass RX7 = some m.cls := findClass_of_methodNamed B.named
  have hlocks := B.notSynchronized
  subst hsz
  have hD := hD0.self (sz := s.heap.size)
  have hA : ∀ q : Nat, s.heap.size ≤ q → va_A (zW_X7_isDigit cI cC cS ) s.heap.size q := fun q h => Or.inr h
  generalize va_A (zW_X7_isDigit cI cC cS ) s.heap.size = A at hD hA ⊢
  have hS : va_S A s.heap s.heap [] := va_S.rf
  have hl := lv_entry ([.int x0]) (n := 1) (Nat.le_of_ble_eq_true rfl)
  rw [lg_entry_eq]
  generalize (lg_sl ([.int x0]) ++ List.replicate (1 - (lg_sl ([.int x0])).length) Slot.unset).toArray = ls at hl ⊢
  have hl : lv_has ls 1 [(0, .int x0)] := hl
  unfold wp_X7_isDigit at hf
  refine lv_iload_n hx hb dX7_isDigit_0 rfl (lv_at hl 0 rfl) ?_
  refine lv_bipush (v := 48) hx hb dX7_isDigit_1 (by decide) ?_
  refine lv_icmp_lt (tgt := 16) hx hb dX7_isDigit_3 (by decide) (fun c1 => ?_) (fun c1 => ?_)
  · replace hf := hf.1 c1
    refine lv_iconst (v := 0) hx hb dX7_isDigit_16 (by decide) ?_
    exact z_zret hx hb hr rfl hlocks () hf hK hP hD hS dX7_isDigit_17
  · replace hf := hf.2 c1
    refine lv_iload_n hx hb dX7_isDigit_6 rfl (lv_at hl 0 rfl) ?_
    refine lv_bipush (v := 57) hx hb dX7_isDigit_7 (by decide) ?_
    refine lv_icmp_gt (tgt := 16) hx hb dX7_isDigit_9 (by decide) (fun c2 => ?_) (fun c2 => ?_)
    · replace hf := hf.1 c2
      refine lv_iconst (v := 0) hx hb dX7_isDigit_16 (by decide) ?_
      exact z_zret hx hb hr rfl hlocks () hf hK hP hD hS dX7_isDigit_17
    · replace hf := hf.2 c2
      refine lv_iconst (v := 1) hx hb dX7_isDigit_12 (by decide) ?_
      refine lv_goto (tgt := 17) hx hb dX7_isDigit_13 (by decide) ?_
      exact z_zret hx hb hr rfl hlocks () hf hK hP hD hS dX7_isDigit_17
def wp_X7_takeNumber (N : Nat) (x2 : Int32) (v_this_read : Int32) (v_this_place : Int32) (f_this_numbers : Nat → Int32) (v_p1_many : Int32) (f_p1_signs : Nat → Int32) (Φ : Int32 → Int32 → Int32 → (Nat → Int32) → Prop) : Prop := 
    wp_X2_signAt N v_this_place v_p1_many f_p1_signs (fun r1 => 
     wp_X7_isDigit N r1 (fun r2 => 
     ((r2 = 0 → Φ 0 v_this_read v_this_place f_this_numbers) ∧
     (¬ (r2 = 0) → ((v_this_read < 2 → wp_X2_signAt N (v_this_place + 1) v_p1_many f_p1_signs (fun r5 => 
     ((x2 = 0 → (vp_in v_this_read 2 ∧ Φ 1 (v_this_read + 1) (v_this_place + 1) (upd f_this_numbers (Int32.toNatClampNeg v_this_read) (r1 - 48)))) ∧
     (¬ (x2 = 0) → wp_X7_isDigit N r5 (fun r7 => 
     ((r7 = 0 → (vp_in v_this_read 2 ∧ Φ 1 (v_this_read + 1) (v_this_place + 1) (upd f_this_numbers (Int32.toNatClampNeg v_this_read) (r1 - 48)))) ∧
     (¬ (r7 = 0) → (vp_in v_this_read 2 ∧ Φ 1 (v_this_read + 1) ((v_this_place + 1) + 1) (upd f_this_numbers (Int32.toNatClampNeg v_this_read) ((((r1 - 48) * 10) + r5) - 48)))))))))) ∧
     (¬ (v_this_read < 2) → Φ 0 v_this_read v_this_place f_this_numbers))))))
abbrev zW_X7_takeNumber (cI cC cS : ClassId) (q_this : Nat) (q_this_numbers : Nat) (q_p1 : Nat) (q_p1_signs : Nat) (q_this_draft : Nat) (v_this_read : Int32) (v_this_reader : Int32) (v_this_lead : Int32) (v_this_place : Int32) (f_this_numbers : Nat → Int32) (v_p1_many : Int32) (f_p1_signs : Nat → Int32) : va_W := [(q_this, .inr (6, [.ref q_this_draft, .ref q_this_numbers, .int v_this_read, .int v_this_reader, .int v_this_lead, .int v_this_place])),
  (q_this_numbers, .inl (cI, 2, .inl f_this_numbers)),
  (q_p1, .inr (2, [.ref q_p1_signs, .int v_p1_many])),
  (q_p1_signs, .inl (cI, 64, .inl f_p1_signs))]
abbrev zr_X7_takeNumber : Room := { frames := 1, cells := 0, slots := 0, locals := 21 }
set_option maxHeartbeats 4000000 in
set_option maxRecDepth 100000 in
theorem c_X7_takeNumber (l : Launch) (dC : Nat → ClassId) (dI : Nat → Nat → Nat) (cI cC cS : ClassId) (q_this : Nat) (q_this_numbers : Nat) (q_p1 : Nat) (q_p1_signs : Nat) (q_this_draft : Nat) (sz : Nat) (v_this_read : Int32) (v_this_reader : Int32) (v_this_lead : Int32) (v_this_place : Int32) (f_this_numbers : Nat → Int32) (v_p1_many : Int32) (f_p1_signs : Nat → Int32) (x2 : Int32) (N : Nat) (Φ : Int32 → Int32 → Int32 → (Nat → Int32) → Prop)  (hf : wp_X7_takeNumber N x2 v_this_read v_this_place f_this_numbers v_p1_many f_p1_signs Φ) : Met l yX7_takeNumber wsX7_takeNumber zr_X7_takeNumber (zPc (dC, dI) (zT cI cC cS) [.ref q_this, .ref q_p1, .int x2] sz (zW_X7_takeNumber cI cC cS q_this q_this_numbers q_p1 q_p1_signs q_this_draft v_this_read v_this_reader v_this_lead v_this_place f_this_numbers v_p1_many f_p1_signs)) (zQi (dC, dI) (zT cI cC cS) (va_A (zW_X7_takeNumber cI cC cS q_this q_this_numbers q_p1 q_p1_signs q_this_draft v_this_read v_this_reader v_this_lead v_this_place f_this_numbers v_p1_many f_p1_signs) sz) (fun (r : Int32) (u : (Int32) × (Int32) × (Nat → Int32)) => Φ r u.1 u.2.1 u.2.2) (fun u => (zW_X7_takeNumber cI cC cS q_this q_this_numbers q_p1 q_p1_signs q_this_draft u.1 v_this_reader v_this_lead u.2.1 u.2.2 v_p1_many f_p1_signs))) 0 0 (va_A (zW_X7_takeNumber cI cC cS q_this q_this_numbers q_p1 q_p1_signs q_this_draft v_this_read v_this_reader v_this_lead v_this_place f_this_numbers v_p1_many f_p1_signs) sz) := by
  refine Met.ofW (cc := cX7_takeNumber) (maxL := 5) (ret := (some .boolean)) (by decide) rfl ?_
  intro p e s m args below meth c s₁ B hml hv
  obtain ⟨rfl, hsz, hP, hK, hD0⟩ := hv
  have hx := B.exec
  have hb := B.bytes
  have hr := B.returns
  have hts := atoms_spec (ws := wsX7_takeNumber) B.pre
  have hown : s.vm.findClass RX7 = some m.cls := findClass_of_methodNamed B.named
  have hlocks := B.notSynchronized
  subst hsz
  have hD := hD0.self (sz := s.heap.size)
  have hA : ∀ q : Nat, s.heap.size ≤ q → va_A (zW_X7_takeNumber cI cC cS q_this q_this_numbers q_p1 q_p1_signs q_this_draft v_this_read v_this_reader v_this_lead v_this_place f_this_numbers v_p1_many f_p1_signs) s.heap.size q := fun q h => Or.inr h
  generalize va_A (zW_X7_takeNumber cI cC cS q_this q_this_numbers q_p1 q_p1_signs q_this_draft v_this_read v_this_reader v_this_lead v_this_place f_this_numbers v_p1_many f_p1_signs) s.heap.size = A at hD hA ⊢
  have hS : va_S A s.heap s.heap [] := va_S.rf
  have hl := lv_entry ([.ref q_this, .ref q_p1, .int x2]) (n := 5) (Nat.le_of_ble_eq_true rfl)
  rw [lg_entry_eq]
  generalize (lg_sl ([.ref q_this, .ref q_p1, .int x2]) ++ List.replicate (5 - (lg_sl ([.ref q_this, .ref q_p1, .int x2])).length) Slot.unset).toArray = ls at hl ⊢
  have hl : lv_has ls 5 [(0, .ref q_this), (1, .ref q_p1), (2, .int x2)] := hl
  have lk1 := hts (.fieldLink RX7 32 "ReadFromAnywhere$Teller" "place" "I") (List.mem_of_getElem? (i := 1) rfl)
  have inX7 : ∀ w ∈ u_ws RX7 TX7 6, w ∈ wsX7_takeNumber := fun _ h => List.mem_cons_of_mem _ (List.mem_append_left _ (List.mem_append_right _ h))
  have lk2 := hts (.fieldLink RX7 22 "ReadFromAnywhere$Teller" "read" "I") (List.mem_of_getElem? (i := 2) rfl)
  have lk3 := hts (.fieldLink RX7 18 "ReadFromAnywhere$Teller" "numbers" "[I") (List.mem_of_getElem? (i := 3) rfl)
  unfold wp_X7_takeNumber at hf
  refine lv_aload_n hx hb dX7_takeNumber_0 rfl (lv_at hl 1 rfl) ?_
  refine lv_aload_n hx hb dX7_takeNumber_1 rfl (lv_at hl 0 rfl) ?_
  refine va_get (D := (dC, dI)) (ci := 6) (v := .int v_this_place) (C := RX7) (T := TX7) (N := 6) hx hb hts inX7 hown hK hP 0 rfl rfl 5 (by decide) lk1 (fun _ h9 => h9) rfl dX7_takeNumber_2 ?_
  refine z_Vi (n := 1) (As := [.int v_this_place]) (rest := []) ⟨hx, hb, hml, hown, hts⟩ (c_X2_signAt l dC dI cI cC cS q_p1 q_p1_signs _ v_p1_many f_p1_signs v_this_place N _  hf) gX7_takeNumber_X2_signAt rfl rfl rfl (by decide +kernel) ⟨Nat.le_of_ble_eq_true rfl, Nat.le_of_ble_eq_true rfl⟩ hK hP hD hS hA 2 2 rfl rfl rfl hl.1 rfl (Nat.le_of_ble_eq_true rfl) dX7_takeNumber_5 ⟨Nat.zero_le _, Nat.zero_le _⟩ [2, 3] [0, 1] (([(q_this, .inr (6, [.ref q_this_draft, .ref q_this_numbers, .int v_this_read, .int v_this_reader, .int v_this_lead, .int v_this_place])), (q_this_numbers, .inl (cI, 2, .inl f_this_numbers))] : va_W)) rfl rfl (by decide) (by decide) (by decide) (fun u => (zW_X7_takeNumber cI cC cS q_this q_this_numbers q_p1 q_p1_signs q_this_draft v_this_read v_this_reader v_this_lead v_this_place f_this_numbers v_p1_many f_p1_signs)) [0, 1, 2, 3] (fun u => rfl) (by decide) (fun r1 u1 H locs hf hP hD hS => ?_)
  have hP : va_P (dC, dI) vwCl (zW_X7_takeNumber cI cC cS q_this q_this_numbers q_p1 q_p1_signs q_this_draft v_this_read v_this_reader v_this_lead v_this_place f_this_numbers v_p1_many f_p1_signs) H := hP
  have hD : va_D A (zW_X7_takeNumber cI cC cS q_this q_this_numbers q_p1 q_p1_signs q_this_draft v_this_read v_this_reader v_this_lead v_this_place f_this_numbers v_p1_many f_p1_signs) := hD
  refine lv_istore_n (lv' := [(3, .int r1), (0, .ref q_this), (1, .ref q_p1), (2, .int x2)]) hx hb dX7_takeNumber_8 rfl hl (by decide) rfl (fun ls hl => ?_)
  refine lv_iload_n hx hb dX7_takeNumber_9 rfl (lv_at hl 0 rfl) ?_
  refine z_Si (n := 1) (As := [.int r1]) (rest := []) ⟨hx, hb, hml, hown, hts⟩ (c_X7_isDigit l dC dI cI cC cS  _  r1 N _  hf) gX7_takeNumber_X7_isDigit rfl rfl rfl (by decide +kernel) ⟨Nat.le_of_ble_eq_true rfl, Nat.le_of_ble_eq_true rfl⟩ hK hP hD hS hA rfl hl.1 rfl (Nat.le_of_ble_eq_true rfl) dX7_takeNumber_10 ⟨Nat.zero_le _, Nat.zero_le _⟩ [] [0, 1, 2, 3] (([(q_this, .inr (6, [.ref q_this_draft, .ref q_this_numbers, .int v_this_read, .int v_this_reader, .int v_this_lead, .int v_this_place])), (q_this_numbers, .inl (cI, 2, .inl f_this_numbers)), (q_p1, .inr (2, [.ref q_p1_signs, .int v_p1_many])), (q_p1_signs, .inl (cI, 64, .inl f_p1_signs))] : va_W)) rfl rfl (by decide) (by decide) (by decide) (fun u => (zW_X7_takeNumber cI cC cS q_this q_this_numbers q_p1 q_p1_signs q_this_draft v_this_read v_this_reader v_this_lead v_this_place f_this_numbers v_p1_many f_p1_signs)) [0, 1, 2, 3] (fun u => rfl) (by decide) (fun r2 u2 H locs hf hP hD hS => ?_)
  have hP : va_P (dC, dI) vwCl (zW_X7_takeNumber cI cC cS q_this q_this_numbers q_p1 q_p1_signs q_this_draft v_this_read v_this_reader v_this_lead v_this_place f_this_numbers v_p1_many f_p1_signs) H := hP
  have hD : va_D A (zW_X7_takeNumber cI cC cS q_this q_this_numbers q_p1 q_p1_signs q_this_draft v_this_read v_this_reader v_this_lead v_this_place f_this_numbers v_p1_many f_p1_signs) := hD
  refine lv_if_eq (tgt := 28) hx hb dX7_takeNumber_13 (by decide) (fun c3 => ?_) (fun c3 => ?_)
  · replace hf := hf.1 c3
    refine lv_iconst (v := 0) hx hb dX7_takeNumber_28 (by decide) ?_
    exact z_zret hx hb hr rfl hlocks (v_this_read, v_this_place, f_this_numbers) hf hK hP hD hS dX7_takeNumber_29
  · replace hf := hf.2 c3
    refine lv_aload_n hx hb dX7_takeNumber_16 rfl (lv_at hl 1 rfl) ?_
    refine va_get (D := (dC, dI)) (ci := 6) (v := .int v_this_read) (C := RX7) (T := TX7) (N := 6) hx hb hts inX7 hown hK hP 0 rfl rfl 2 (by decide) lk2 (fun _ h9 => h9) rfl dX7_takeNumber_17 ?_
    refine lv_aload_n hx hb dX7_takeNumber_20 rfl (lv_at hl 1 rfl) ?_
    refine va_get (D := (dC, dI)) (ci := 6) (v := .ref q_this_numbers) (C := RX7) (T := TX7) (N := 6) hx hb hts inX7 hown hK hP 0 rfl rfl 1 (by decide) lk3 (fun _ h9 => h9) rfl dX7_takeNumber_21 ?_
    refine va_alen hx hb hK hP 1 0 rfl (ty := .int) rfl (v := 2) rfl dX7_takeNumber_24 ?_
    refine lv_icmp_lt (tgt := 30) hx hb dX7_takeNumber_25 (by decide) (fun c4 => ?_) (fun c4 => ?_)
    · replace hf := hf.1 c4
      refine lv_iload_n hx hb dX7_takeNumber_30 rfl (lv_at hl 0 rfl) ?_
      refine lv_bipush (v := 48) hx hb dX7_takeNumber_31 (by decide) ?_
      refine lv_isub hx hb dX7_takeNumber_33 ?_
      refine lv_istore (lv' := [(4, .int (r1 - 48)), (3, .int r1), (0, .ref q_this), (1, .ref q_p1), (2, .int x2)]) hx hb dX7_takeNumber_34 hl (by decide) rfl (fun ls hl => ?_)
      refine lv_aload_n hx hb dX7_takeNumber_36 rfl (lv_at hl 2 rfl) ?_
      refine lv_dup hx hb dX7_takeNumber_37 rfl ?_
      refine va_get (D := (dC, dI)) (ci := 6) (v := .int v_this_place) (C := RX7) (T := TX7) (N := 6) hx hb hts inX7 hown hK hP 0 rfl rfl 5 (by decide) lk1 (fun _ h9 => h9) rfl dX7_takeNumber_38 ?_
      refine lv_iconst (v := 1) hx hb dX7_takeNumber_41 (by decide) ?_
      refine lv_iadd hx hb dX7_takeNumber_42 ?_
      refine va_put (D := (dC, dI)) (ci := 6) (v := .int (v_this_place + 1)) (ty := .int) (C := RX7) (T := TX7) (N := 6) hx hb hts inX7 tyX7 tyX7_ok nmX7 hown hK hP hD hS 0 rfl rfl 5 (by decide) lk1 (fun _ h9 => h9) rfl (by decide +kernel) rfl rfl (Nat.le_of_ble_eq_true rfl) dX7_takeNumber_43 (fun H locs hP hD hS => ?_)
      have hP : va_P (dC, dI) vwCl (zW_X7_takeNumber cI cC cS q_this q_this_numbers q_p1 q_p1_signs q_this_draft v_this_read v_this_reader v_this_lead (v_this_place + 1) f_this_numbers v_p1_many f_p1_signs) H := hP
      have hD : va_D A (zW_X7_takeNumber cI cC cS q_this q_this_numbers q_p1 q_p1_signs q_this_draft v_this_read v_this_reader v_this_lead (v_this_place + 1) f_this_numbers v_p1_many f_p1_signs) := hD
      refine lv_aload_n hx hb dX7_takeNumber_46 rfl (lv_at hl 3 rfl) ?_
      refine lv_aload_n hx hb dX7_takeNumber_47 rfl (lv_at hl 2 rfl) ?_
      refine va_get (D := (dC, dI)) (ci := 6) (v := .int (v_this_place + 1)) (C := RX7) (T := TX7) (N := 6) hx hb hts inX7 hown hK hP 0 rfl rfl 5 (by decide) lk1 (fun _ h9 => h9) rfl dX7_takeNumber_48 ?_
      refine z_Vi (n := 1) (As := [.int (v_this_place + 1)]) (rest := []) ⟨hx, hb, hml, hown, hts⟩ (c_X2_signAt l dC dI cI cC cS q_p1 q_p1_signs _ v_p1_many f_p1_signs (v_this_place + 1) N _  hf) gX7_takeNumber_X2_signAt rfl rfl rfl (by decide +kernel) ⟨Nat.le_of_ble_eq_true rfl, Nat.le_of_ble_eq_true rfl⟩ hK hP hD hS hA 2 2 rfl rfl rfl hl.1 rfl (Nat.le_of_ble_eq_true rfl) dX7_takeNumber_51 ⟨Nat.zero_le _, Nat.zero_le _⟩ [2, 3] [0, 1] (([(q_this, .inr (6, [.ref q_this_draft, .ref q_this_numbers, .int v_this_read, .int v_this_reader, .int v_this_lead, .int (v_this_place + 1)])), (q_this_numbers, .inl (cI, 2, .inl f_this_numbers))] : va_W)) rfl rfl (by decide) (by decide) (by decide) (fun u => (zW_X7_takeNumber cI cC cS q_this q_this_numbers q_p1 q_p1_signs q_this_draft v_this_read v_this_reader v_this_lead (v_this_place + 1) f_this_numbers v_p1_many f_p1_signs)) [0, 1, 2, 3] (fun u => rfl) (by decide) (fun r5 u5 H locs hf hP hD hS => ?_)
      have hP : va_P (dC, dI) vwCl (zW_X7_takeNumber cI cC cS q_this q_this_numbers q_p1 q_p1_signs q_this_draft v_this_read v_this_reader v_this_lead (v_this_place + 1) f_this_numbers v_p1_many f_p1_signs) H := hP
      have hD : va_D A (zW_X7_takeNumber cI cC cS q_this q_this_numbers q_p1 q_p1_signs q_this_draft v_this_read v_this_reader v_this_lead (v_this_place + 1) f_this_numbers v_p1_many f_p1_signs) := hD
      refine lv_istore_n (lv' := [(3, .int r5), (4, .int (r1 - 48)), (0, .ref q_this), (1, .ref q_p1), (2, .int x2)]) hx hb dX7_takeNumber_54 rfl hl (by decide) rfl (fun ls hl => ?_)
      refine lv_iload_n hx hb dX7_takeNumber_55 rfl (lv_at hl 4 rfl) ?_
      refine lv_if_eq (tgt := 88) hx hb dX7_takeNumber_56 (by decide) (fun c6 => ?_) (fun c6 => ?_)
      · replace hf := hf.1 c6
        refine lv_aload_n hx hb dX7_takeNumber_88 rfl (lv_at hl 2 rfl) ?_
        refine va_get (D := (dC, dI)) (ci := 6) (v := .ref q_this_numbers) (C := RX7) (T := TX7) (N := 6) hx hb hts inX7 hown hK hP 0 rfl rfl 1 (by decide) lk3 (fun _ h9 => h9) rfl dX7_takeNumber_89 ?_
        refine lv_aload_n hx hb dX7_takeNumber_92 rfl (lv_at hl 2 rfl) ?_
        refine va_get (D := (dC, dI)) (ci := 6) (v := .int v_this_read) (C := RX7) (T := TX7) (N := 6) hx hb hts inX7 hown hK hP 0 rfl rfl 2 (by decide) lk2 (fun _ h9 => h9) rfl dX7_takeNumber_93 ?_
        refine lv_iload hx hb dX7_takeNumber_96 (lv_at hl 1 rfl) ?_
        refine va_iast hx hb hK hP hD hS 1 0 rfl rfl hf.1 dX7_takeNumber_98 (fun H locs hP hD hS => ?_)
        replace hf := hf.2
        have hP : va_P (dC, dI) vwCl (zW_X7_takeNumber cI cC cS q_this q_this_numbers q_p1 q_p1_signs q_this_draft v_this_read v_this_reader v_this_lead (v_this_place + 1) (upd f_this_numbers (Int32.toNatClampNeg v_this_read) (r1 - 48)) v_p1_many f_p1_signs) H := hP
        have hD : va_D A (zW_X7_takeNumber cI cC cS q_this q_this_numbers q_p1 q_p1_signs q_this_draft v_this_read v_this_reader v_this_lead (v_this_place + 1) (upd f_this_numbers (Int32.toNatClampNeg v_this_read) (r1 - 48)) v_p1_many f_p1_signs) := hD
        refine lv_aload_n hx hb dX7_takeNumber_99 rfl (lv_at hl 2 rfl) ?_
        refine lv_dup hx hb dX7_takeNumber_100 rfl ?_
        refine va_get (D := (dC, dI)) (ci := 6) (v := .int v_this_read) (C := RX7) (T := TX7) (N := 6) hx hb hts inX7 hown hK hP 0 rfl rfl 2 (by decide) lk2 (fun _ h9 => h9) rfl dX7_takeNumber_101 ?_
        refine lv_iconst (v := 1) hx hb dX7_takeNumber_104 (by decide) ?_
        refine lv_iadd hx hb dX7_takeNumber_105 ?_
        refine va_put (D := (dC, dI)) (ci := 6) (v := .int (v_this_read + 1)) (ty := .int) (C := RX7) (T := TX7) (N := 6) hx hb hts inX7 tyX7 tyX7_ok nmX7 hown hK hP hD hS 0 rfl rfl 2 (by decide) lk2 (fun _ h9 => h9) rfl (by decide +kernel) rfl rfl (Nat.le_of_ble_eq_true rfl) dX7_takeNumber_106 (fun H locs hP hD hS => ?_)
        have hP : va_P (dC, dI) vwCl (zW_X7_takeNumber cI cC cS q_this q_this_numbers q_p1 q_p1_signs q_this_draft (v_this_read + 1) v_this_reader v_this_lead (v_this_place + 1) (upd f_this_numbers (Int32.toNatClampNeg v_this_read) (r1 - 48)) v_p1_many f_p1_signs) H := hP
        have hD : va_D A (zW_X7_takeNumber cI cC cS q_this q_this_numbers q_p1 q_p1_signs q_this_draft (v_this_read + 1) v_this_reader v_this_lead (v_this_place + 1) (upd f_this_numbers (Int32.toNatClampNeg v_this_read) (r1 - 48)) v_p1_many f_p1_signs) := hD
        refine lv_iconst (v := 1) hx hb dX7_takeNumber_109 (by decide) ?_
        exact z_zret hx hb hr rfl hlocks ((v_this_read + 1), (v_this_place + 1), (upd f_this_numbers (Int32.toNatClampNeg v_this_read) (r1 - 48))) hf hK hP hD hS dX7_takeNumber_110
      · replace hf := hf.2 c6
        refine lv_iload_n hx hb dX7_takeNumber_59 rfl (lv_at hl 0 rfl) ?_
        refine z_Si (n := 1) (As := [.int r5]) (rest := []) ⟨hx, hb, hml, hown, hts⟩ (c_X7_isDigit l dC dI cI cC cS  _  r5 N _  hf) gX7_takeNumber_X7_isDigit rfl rfl rfl (by decide +kernel) ⟨Nat.le_of_ble_eq_true rfl, Nat.le_of_ble_eq_true rfl⟩ hK hP hD hS hA rfl hl.1 rfl (Nat.le_of_ble_eq_true rfl) dX7_takeNumber_60 ⟨Nat.zero_le _, Nat.zero_le _⟩ [] [0, 1, 2, 3] (([(q_this, .inr (6, [.ref q_this_draft, .ref q_this_numbers, .int v_this_read, .int v_this_reader, .int v_this_lead, .int (v_this_place + 1)])), (q_this_numbers, .inl (cI, 2, .inl f_this_numbers)), (q_p1, .inr (2, [.ref q_p1_signs, .int v_p1_many])), (q_p1_signs, .inl (cI, 64, .inl f_p1_signs))] : va_W)) rfl rfl (by decide) (by decide) (by decide) (fun u => (zW_X7_takeNumber cI cC cS q_this q_this_numbers q_p1 q_p1_signs q_this_draft v_this_read v_this_reader v_this_lead (v_this_place + 1) f_this_numbers v_p1_many f_p1_signs)) [0, 1, 2, 3] (fun u => rfl) (by decide) (fun r7 u7 H locs hf hP hD hS => ?_)
        have hP : va_P (dC, dI) vwCl (zW_X7_takeNumber cI cC cS q_this q_this_numbers q_p1 q_p1_signs q_this_draft v_this_read v_this_reader v_this_lead (v_this_place + 1) f_this_numbers v_p1_many f_p1_signs) H := hP
        have hD : va_D A (zW_X7_takeNumber cI cC cS q_this q_this_numbers q_p1 q_p1_signs q_this_draft v_this_read v_this_reader v_this_lead (v_this_place + 1) f_this_numbers v_p1_many f_p1_signs) := hD
        refine lv_if_eq (tgt := 88) hx hb dX7_takeNumber_63 (by decide) (fun c8 => ?_) (fun c8 => ?_)
        · replace hf := hf.1 c8
          refine lv_aload_n hx hb dX7_takeNumber_88 rfl (lv_at hl 2 rfl) ?_
          refine va_get (D := (dC, dI)) (ci := 6) (v := .ref q_this_numbers) (C := RX7) (T := TX7) (N := 6) hx hb hts inX7 hown hK hP 0 rfl rfl 1 (by decide) lk3 (fun _ h9 => h9) rfl dX7_takeNumber_89 ?_
          refine lv_aload_n hx hb dX7_takeNumber_92 rfl (lv_at hl 2 rfl) ?_
          refine va_get (D := (dC, dI)) (ci := 6) (v := .int v_this_read) (C := RX7) (T := TX7) (N := 6) hx hb hts inX7 hown hK hP 0 rfl rfl 2 (by decide) lk2 (fun _ h9 => h9) rfl dX7_takeNumber_93 ?_
          refine lv_iload hx hb dX7_takeNumber_96 (lv_at hl 1 rfl) ?_
          refine va_iast hx hb hK hP hD hS 1 0 rfl rfl hf.1 dX7_takeNumber_98 (fun H locs hP hD hS => ?_)
          replace hf := hf.2
          have hP : va_P (dC, dI) vwCl (zW_X7_takeNumber cI cC cS q_this q_this_numbers q_p1 q_p1_signs q_this_draft v_this_read v_this_reader v_this_lead (v_this_place + 1) (upd f_this_numbers (Int32.toNatClampNeg v_this_read) (r1 - 48)) v_p1_many f_p1_signs) H := hP
          have hD : va_D A (zW_X7_takeNumber cI cC cS q_this q_this_numbers q_p1 q_p1_signs q_this_draft v_this_read v_this_reader v_this_lead (v_this_place + 1) (upd f_this_numbers (Int32.toNatClampNeg v_this_read) (r1 - 48)) v_p1_many f_p1_signs) := hD
          refine lv_aload_n hx hb dX7_takeNumber_99 rfl (lv_at hl 2 rfl) ?_
          refine lv_dup hx hb dX7_takeNumber_100 rfl ?_
          refine va_get (D := (dC, dI)) (ci := 6) (v := .int v_this_read) (C := RX7) (T := TX7) (N := 6) hx hb hts inX7 hown hK hP 0 rfl rfl 2 (by decide) lk2 (fun _ h9 => h9) rfl dX7_takeNumber_101 ?_
          refine lv_iconst (v := 1) hx hb dX7_takeNumber_104 (by decide) ?_
          refine lv_iadd hx hb dX7_takeNumber_105 ?_
          refine va_put (D := (dC, dI)) (ci := 6) (v := .int (v_this_read + 1)) (ty := .int) (C := RX7) (T := TX7) (N := 6) hx hb hts inX7 tyX7 tyX7_ok nmX7 hown hK hP hD hS 0 rfl rfl 2 (by decide) lk2 (fun _ h9 => h9) rfl (by decide +kernel) rfl rfl (Nat.le_of_ble_eq_true rfl) dX7_takeNumber_106 (fun H locs hP hD hS => ?_)
          have hP : va_P (dC, dI) vwCl (zW_X7_takeNumber cI cC cS q_this q_this_numbers q_p1 q_p1_signs q_this_draft (v_this_read + 1) v_this_reader v_this_lead (v_this_place + 1) (upd f_this_numbers (Int32.toNatClampNeg v_this_read) (r1 - 48)) v_p1_many f_p1_signs) H := hP
          have hD : va_D A (zW_X7_takeNumber cI cC cS q_this q_this_numbers q_p1 q_p1_signs q_this_draft (v_this_read + 1) v_this_reader v_this_lead (v_this_place + 1) (upd f_this_numbers (Int32.toNatClampNeg v_this_read) (r1 - 48)) v_p1_many f_p1_signs) := hD
          refine lv_iconst (v := 1) hx hb dX7_takeNumber_109 (by decide) ?_
          exact z_zret hx hb hr rfl hlocks ((v_this_read + 1), (v_this_place + 1), (upd f_this_numbers (Int32.toNatClampNeg v_this_read) (r1 - 48))) hf hK hP hD hS dX7_takeNumber_110
        · replace hf := hf.2 c8
          refine lv_iload hx hb dX7_takeNumber_66 (lv_at hl 1 rfl) ?_
          refine lv_bipush (v := 10) hx hb dX7_takeNumber_68 (by decide) ?_
          refine lv_imul hx hb dX7_takeNumber_70 ?_
          refine lv_iload_n hx hb dX7_takeNumber_71 rfl (lv_at hl 0 rfl) ?_
          refine lv_iadd hx hb dX7_takeNumber_72 ?_
          refine lv_bipush (v := 48) hx hb dX7_takeNumber_73 (by decide) ?_
          refine lv_isub hx hb dX7_takeNumber_75 ?_
          refine lv_istore (lv' := [(4, .int ((((r1 - 48) * 10) + r5) - 48)), (3, .int r5), (0, .ref q_this), (1, .ref q_p1), (2, .int x2)]) hx hb dX7_takeNumber_76 hl (by decide) rfl (fun ls hl => ?_)
          refine lv_aload_n hx hb dX7_takeNumber_78 rfl (lv_at hl 2 rfl) ?_
          refine lv_dup hx hb dX7_takeNumber_79 rfl ?_
          refine va_get (D := (dC, dI)) (ci := 6) (v := .int (v_this_place + 1)) (C := RX7) (T := TX7) (N := 6) hx hb hts inX7 hown hK hP 0 rfl rfl 5 (by decide) lk1 (fun _ h9 => h9) rfl dX7_takeNumber_80 ?_
          refine lv_iconst (v := 1) hx hb dX7_takeNumber_83 (by decide) ?_
          refine lv_iadd hx hb dX7_takeNumber_84 ?_
          refine va_put (D := (dC, dI)) (ci := 6) (v := .int ((v_this_place + 1) + 1)) (ty := .int) (C := RX7) (T := TX7) (N := 6) hx hb hts inX7 tyX7 tyX7_ok nmX7 hown hK hP hD hS 0 rfl rfl 5 (by decide) lk1 (fun _ h9 => h9) rfl (by decide +kernel) rfl rfl (Nat.le_of_ble_eq_true rfl) dX7_takeNumber_85 (fun H locs hP hD hS => ?_)
          have hP : va_P (dC, dI) vwCl (zW_X7_takeNumber cI cC cS q_this q_this_numbers q_p1 q_p1_signs q_this_draft v_this_read v_this_reader v_this_lead ((v_this_place + 1) + 1) f_this_numbers v_p1_many f_p1_signs) H := hP
          have hD : va_D A (zW_X7_takeNumber cI cC cS q_this q_this_numbers q_p1 q_p1_signs q_this_draft v_this_read v_this_reader v_this_lead ((v_this_place + 1) + 1) f_this_numbers v_p1_many f_p1_signs) := hD
          refine lv_aload_n hx hb dX7_takeNumber_88 rfl (lv_at hl 2 rfl) ?_
          refine va_get (D := (dC, dI)) (ci := 6) (v := .ref q_this_numbers) (C := RX7) (T := TX7) (N := 6) hx hb hts inX7 hown hK hP 0 rfl rfl 1 (by decide) lk3 (fun _ h9 => h9) rfl dX7_takeNumber_89 ?_
          refine lv_aload_n hx hb dX7_takeNumber_92 rfl (lv_at hl 2 rfl) ?_
          refine va_get (D := (dC, dI)) (ci := 6) (v := .int v_this_read) (C := RX7) (T := TX7) (N := 6) hx hb hts inX7 hown hK hP 0 rfl rfl 2 (by decide) lk2 (fun _ h9 => h9) rfl dX7_takeNumber_93 ?_
          refine lv_iload hx hb dX7_takeNumber_96 (lv_at hl 0 rfl) ?_
          refine va_iast hx hb hK hP hD hS 1 0 rfl rfl hf.1 dX7_takeNumber_98 (fun H locs hP hD hS => ?_)
          replace hf := hf.2
          have hP : va_P (dC, dI) vwCl (zW_X7_takeNumber cI cC cS q_this q_this_numbers q_p1 q_p1_signs q_this_draft v_this_read v_this_reader v_this_lead ((v_this_place + 1) + 1) (upd f_this_numbers (Int32.toNatClampNeg v_this_read) ((((r1 - 48) * 10) + r5) - 48)) v_p1_many f_p1_signs) H := hP
          have hD : va_D A (zW_X7_takeNumber cI cC cS q_this q_this_numbers q_p1 q_p1_signs q_this_draft v_this_read v_this_reader v_this_lead ((v_this_place + 1) + 1) (upd f_this_numbers (Int32.toNatClampNeg v_this_read) ((((r1 - 48) * 10) + r5) - 48)) v_p1_many f_p1_signs) := hD
          refine lv_aload_n hx hb dX7_takeNumber_99 rfl (lv_at hl 2 rfl) ?_
          refine lv_dup hx hb dX7_takeNumber_100 rfl ?_
          refine va_get (D := (dC, dI)) (ci := 6) (v := .int v_this_read) (C := RX7) (T := TX7) (N := 6) hx hb hts inX7 hown hK hP 0 rfl rfl 2 (by decide) lk2 (fun _ h9 => h9) rfl dX7_takeNumber_101 ?_
          refine lv_iconst (v := 1) hx hb dX7_takeNumber_104 (by decide) ?_
          refine lv_iadd hx hb dX7_takeNumber_105 ?_
          refine va_put (D := (dC, dI)) (ci := 6) (v := .int (v_this_read + 1)) (ty := .int) (C := RX7) (T := TX7) (N := 6) hx hb hts inX7 tyX7 tyX7_ok nmX7 hown hK hP hD hS 0 rfl rfl 2 (by decide) lk2 (fun _ h9 => h9) rfl (by decide +kernel) rfl rfl (Nat.le_of_ble_eq_true rfl) dX7_takeNumber_106 (fun H locs hP hD hS => ?_)
          have hP : va_P (dC, dI) vwCl (zW_X7_takeNumber cI cC cS q_this q_this_numbers q_p1 q_p1_signs q_this_draft (v_this_read + 1) v_this_reader v_this_lead ((v_this_place + 1) + 1) (upd f_this_numbers (Int32.toNatClampNeg v_this_read) ((((r1 - 48) * 10) + r5) - 48)) v_p1_many f_p1_signs) H := hP
          have hD : va_D A (zW_X7_takeNumber cI cC cS q_this q_this_numbers q_p1 q_p1_signs q_this_draft (v_this_read + 1) v_this_reader v_this_lead ((v_this_place + 1) + 1) (upd f_this_numbers (Int32.toNatClampNeg v_this_read) ((((r1 - 48) * 10) + r5) - 48)) v_p1_many f_p1_signs) := hD
          refine lv_iconst (v := 1) hx hb dX7_takeNumber_109 (by decide) ?_
          exact z_zret hx hb hr rfl hlocks ((v_this_read + 1), ((v_this_place + 1) + 1), (upd f_this_numbers (Int32.toNatClampNeg v_this_read) ((((r1 - 48) * 10) + r5) - 48))) hf hK hP hD hS dX7_takeNumber_110
    · replace hf := hf.2 c4
      refine lv_iconst (v := 0) hx hb dX7_takeNumber_28 (by decide) ?_
      exact z_zret hx hb hr rfl hlocks (v_this_read, v_this_place, f_this_numbers) hf hK hP hD hS dX7_takeNumber_29
