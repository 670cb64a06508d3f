def LawOK (N : Nat) (Inv : (Nat → Int32) → (Nat → Nat → Int32) → (Nat → Int32) → (Nat → Nat → Int32) → Prop) : Prop := zop0 N Inv ∧ zop1 N Inv ∧ zop2 N Inv ∧ zop3 N Inv ∧ zop4 N Inv ∧ zop5 N Inv ∧ zop6 N Inv ∧ zop7 N Inv ∧ zop8 N Inv ∧ zop9 N Inv ∧ zop10 N Inv ∧ zop11 N Inv ∧ zop12 N Inv ∧ zop13 N Inv ∧ zop14 N Inv ∧ zop15 N Inv ∧ zop16 N Inv ∧ zop17 N Inv ∧ zop18 N Inv ∧ zop19 N Inv ∧ zop20 N Inv ∧ zop21 N Inv ∧ zop22 N Inv ∧ zop23 N Inv ∧ zop24 N Inv ∧ zop25 N Inv ∧ zop26 N Inv ∧ zop27 N Inv ∧ zop28 N Inv ∧ zop29 N Inv
set_option maxHeartbeats 8000000 in
set_option maxRecDepth 100000 in
theorem law_loop {p : Program} {l : Launch} {e : Env} {s : State} {m : MethodId} {below : List Frame} {meth : Method} {c : Code} {dC : Nat → ClassId} {dI : Nat → Nat → Nat} {cI cC cS : ClassId} {b L : Nat} {xs : Nat → Int32} {adK adV : Nat → Nat} {fm : Value} (hL : L ≤ 256) (C0 : lw_At p s m meth c b L xs) (hK : va_K (dC, dI) vwCl (zT cI cC cS) s) (hZ : zSt adK adV fm (fun q : Nat => s.heap.size ≤ q) s) (N : Nat) (Inv : (Nat → Int32) → (Nat → Nat → Int32) → (Nat → Int32) → (Nat → Nat → Int32) → Prop) (ok : LawOK N Inv) (ad bd : Nat → Nat) :
    ∀ (n i : Nat) (x3 : Int32), i ≤ L + 4 → L + 5 ≤ i + n → x3 = nI i → ∀ vi fa wi ga, Inv vi fa wi ga → lwR p l e s m below meth c dC dI cI cC cS b ad bd x3 18 vi fa wi ga := by
  intro n
  induction n with
  | zero =>
    intro i x3 h1 h2
    exact absurd h2 (by omega)
  | succ n ih =>
    intro i x3 hi hin ex3 vi fa wi ga hI H locs ls hP hD hS hl
    obtain ⟨hx, hb, hr, hml, hown, hts, hX, hbl, hlocks, hgv⟩ := id C0
    have hA : ∀ q : Nat, s.heap.size ≤ q → (fun q : Nat => s.heap.size ≤ q) q := fun _ h => h
    have hbA : ¬ (fun q : Nat => s.heap.size ≤ q) b := Nat.not_le.mpr hbl
    refine lv_iload_n hx hb dL_law_18 rfl (lv_at hl 3 rfl) ?_
    refine lv_aload_n hx hb dL_law_19 rfl (lv_at hl 0 rfl) ?_
    refine va_slen hx hb hX hbl hbA hS dL_law_20 ?_
    refine lv_iconst (v := 4) hx hb dL_law_21 (by decide) ?_
    refine lv_isub hx hb dL_law_22 ?_
    refine lv_icmp_gt (tgt := 894) hx hb dL_law_23 (by decide) (fun c1 => ?_) (fun c1 => ?_)
    · refine lv_iconst (v := 1) hx hb dL_law_894 (by decide) ?_
      refine va_forget (fun q hq => hS.2.2 q hq) ?_
      refine W.widen (k := 600000) (n := 7302250) (Nat.le_of_ble_eq_true rfl) (Nat.le_of_ble_eq_true rfl) ?_
      exact lw_ret hx hb hr hlocks dL_law_895
    · have hlt : i + 4 ≤ L := by
        rcases Nat.lt_or_ge L (i + 4) with q | q
        · refine absurd ?_ c1
          rw [ex3, Int32.lt_iff_toInt_lt, show (4 : Int32) = nI 4 from rfl]
          rw [show Int32.ofNat L = nI L from rfl, pk_sub_toInt (by omega) (by omega), nI_toInt (by omega)]
          omega
        · exact q
      have e1 : x3 + 1 = nI (i + 1) := by rw [ex3]; exact nI_add i 1
      have e2 : x3 + 2 = nI (i + 2) := by rw [ex3]; exact nI_add i 2
      have e3 : x3 + 3 = nI (i + 3) := by rw [ex3]; exact nI_add i 3
      have h0 : vp_in x3 L := by rw [ex3]; exact vp_in_nI (by omega) (by omega)
      have h1 : vp_in (x3 + 1) L := by rw [e1]; exact vp_in_nI (by omega) (by omega)
      have h2 : vp_in (x3 + 2) L := by rw [e2]; exact vp_in_nI (by omega) (by omega)
      have h3 : vp_in (x3 + 3) L := by rw [e3]; exact vp_in_nI (by omega) (by omega)
      have nxt : ∀ vi fa wi ga, Inv vi fa wi ga → lwR p l e s m below meth c dC dI cI cC cS b ad bd x3 888 vi fa wi ga := by
        intro vi fa wi ga hI H locs ls hP hD hS hl
        refine lv_iinc (v := (x3 + 4)) (lv' := [(3, .int (x3 + 4)), (0, .ref b), (1, .ref (ad 0)), (2, .ref (bd 0))]) hx hb dL_law_888 hl (k := 3) rfl (by rfl) (by decide) rfl (fun ls hl => ?_)
        refine lv_goto (tgt := 18) hx hb dL_law_891 (by decide) ?_
        exact ih (i + 4) (x3 + 4) (by omega) (by omega) (by rw [ex3]; exact nI_add i 4) vi fa wi ga hI H locs ls hP hD hS (lv_sub hl [1, 2, 3, 0] rfl)
      refine lv_aload_n hx hb dL_law_26 rfl (lv_at hl 0 rfl) ?_
      refine lv_iload_n hx hb dL_law_27 rfl (lv_at hl 3 rfl) ?_
      refine va_sld hx hb hX hbl hbA hS h0 dL_law_28 ?_
      refine lv_bipush (v := 31) hx hb dL_law_29 (by decide) ?_
      refine lv_iand hx hb dL_law_31 ?_
      obtain ⟨o, ho, eo⟩ := pk_andE (xs (Int32.toNatClampNeg x3)) (m := 31) 5 (by decide)
      rw [eo]
      have ot : (nI o).toInt = o := nI_toInt (by omega)
      rcases Nat.lt_or_ge o 30 with h30 | h30
      · rcases (show o = 0 ∨ o = 1 ∨ o = 2 ∨ o = 3 ∨ o = 4 ∨ o = 5 ∨ o = 6 ∨ o = 7 ∨ o = 8 ∨ o = 9 ∨ o = 10 ∨ o = 11 ∨ o = 12 ∨ o = 13 ∨ o = 14 ∨ o = 15 ∨ o = 16 ∨ o = 17 ∨ o = 18 ∨ o = 19 ∨ o = 20 ∨ o = 21 ∨ o = 22 ∨ o = 23 ∨ o = 24 ∨ o = 25 ∨ o = 26 ∨ o = 27 ∨ o = 28 ∨ o = 29 by omega) with rfl | rfl | rfl | rfl | rfl | rfl | rfl | rfl | rfl | rfl | rfl | rfl | rfl | rfl | rfl | rfl | rfl | rfl | rfl | rfl | rfl | rfl | rfl | rfl | rfl | rfl | rfl | rfl | rfl | rfl
        · refine lv_tableIn (off := 136) (tgt := 168) hx hb dL_law_32 (by rw [ot]; decide) (by rw [ot]; decide) (by rw [ot]; rfl) (by decide) ?_
          exact lw_case0 C0 hK hZ N Inv ad bd x3 h1 h2 h3 nxt ok.1 vi fa wi ga hI H locs ls hP hD hS hl
        · refine lv_tableIn (off := 159) (tgt := 191) hx hb dL_law_32 (by rw [ot]; decide) (by rw [ot]; decide) (by rw [ot]; rfl) (by decide) ?_
          exact lw_case1 C0 hK hZ N Inv ad bd x3 h1 h2 h3 nxt ok.2.1 vi fa wi ga hI H locs ls hP hD hS hl
        · refine lv_tableIn (off := 172) (tgt := 204) hx hb dL_law_32 (by rw [ot]; decide) (by rw [ot]; decide) (by rw [ot]; rfl) (by decide) ?_
          exact lw_case2 C0 hK hZ N Inv ad bd x3 h1 h2 h3 nxt ok.2.2.1 vi fa wi ga hI H locs ls hP hD hS hl
        · refine lv_tableIn (off := 205) (tgt := 237) hx hb dL_law_32 (by rw [ot]; decide) (by rw [ot]; decide) (by rw [ot]; rfl) (by decide) ?_
          exact lw_case3 C0 hK hZ N Inv ad bd x3 h1 h2 h3 nxt ok.2.2.2.1 vi fa wi ga hI H locs ls hP hD hS hl
        · refine lv_tableIn (off := 238) (tgt := 270) hx hb dL_law_32 (by rw [ot]; decide) (by rw [ot]; decide) (by rw [ot]; rfl) (by decide) ?_
          exact lw_case4 C0 hK hZ N Inv ad bd x3 h1 h2 h3 nxt ok.2.2.2.2.1 vi fa wi ga hI H locs ls hP hD hS hl
        · refine lv_tableIn (off := 261) (tgt := 293) hx hb dL_law_32 (by rw [ot]; decide) (by rw [ot]; decide) (by rw [ot]; rfl) (by decide) ?_
          exact lw_case5 C0 hK hZ N Inv ad bd x3 h1 h2 h3 nxt ok.2.2.2.2.2.1 vi fa wi ga hI H locs ls hP hD hS hl
        · refine lv_tableIn (off := 294) (tgt := 326) hx hb dL_law_32 (by rw [ot]; decide) (by rw [ot]; decide) (by rw [ot]; rfl) (by decide) ?_
          exact lw_case6 C0 hK hZ N Inv ad bd x3 h1 h2 h3 nxt ok.2.2.2.2.2.2.1 vi fa wi ga hI H locs ls hP hD hS hl
        · refine lv_tableIn (off := 317) (tgt := 349) hx hb dL_law_32 (by rw [ot]; decide) (by rw [ot]; decide) (by rw [ot]; rfl) (by decide) ?_
          exact lw_case7 C0 hK hZ N Inv ad bd x3 h1 h2 h3 nxt ok.2.2.2.2.2.2.2.1 vi fa wi ga hI H locs ls hP hD hS hl
        · refine lv_tableIn (off := 330) (tgt := 362) hx hb dL_law_32 (by rw [ot]; decide) (by rw [ot]; decide) (by rw [ot]; rfl) (by decide) ?_
          exact lw_case8 C0 hK hZ N Inv ad bd x3 h1 h2 h3 nxt ok.2.2.2.2.2.2.2.2.1 vi fa wi ga hI H locs ls hP hD hS hl
        · refine lv_tableIn (off := 353) (tgt := 385) hx hb dL_law_32 (by rw [ot]; decide) (by rw [ot]; decide) (by rw [ot]; rfl) (by decide) ?_
          exact lw_case9 C0 hK hZ N Inv ad bd x3 h1 h2 h3 nxt ok.2.2.2.2.2.2.2.2.2.1 vi fa wi ga hI H locs ls hP hD hS hl
        · refine lv_tableIn (off := 386) (tgt := 418) hx hb dL_law_32 (by rw [ot]; decide) (by rw [ot]; decide) (by rw [ot]; rfl) (by decide) ?_
          exact lw_case10 C0 hK hZ N Inv ad bd x3 h1 h2 h3 nxt ok.2.2.2.2.2.2.2.2.2.2.1 vi fa wi ga hI H locs ls hP hD hS hl
        · refine lv_tableIn (off := 409) (tgt := 441) hx hb dL_law_32 (by rw [ot]; decide) (by rw [ot]; decide) (by rw [ot]; rfl) (by decide) ?_
          exact lw_case11 C0 hK hZ N Inv ad bd x3 h1 h2 h3 nxt ok.2.2.2.2.2.2.2.2.2.2.2.1 vi fa wi ga hI H locs ls hP hD hS hl
        · refine lv_tableIn (off := 432) (tgt := 464) hx hb dL_law_32 (by rw [ot]; decide) (by rw [ot]; decide) (by rw [ot]; rfl) (by decide) ?_
          exact lw_case12 C0 hK hZ N Inv ad bd x3 h1 h2 h3 nxt ok.2.2.2.2.2.2.2.2.2.2.2.2.1 vi fa wi ga hI H locs ls hP hD hS hl
        · refine lv_tableIn (off := 445) (tgt := 477) hx hb dL_law_32 (by rw [ot]; decide) (by rw [ot]; decide) (by rw [ot]; rfl) (by decide) ?_
          exact lw_case13 C0 hK hZ N Inv ad bd x3 h1 h2 h3 nxt ok.2.2.2.2.2.2.2.2.2.2.2.2.2.1 vi fa wi ga hI H locs ls hP hD hS hl
        · refine lv_tableIn (off := 488) (tgt := 520) hx hb dL_law_32 (by rw [ot]; decide) (by rw [ot]; decide) (by rw [ot]; rfl) (by decide) ?_
          exact lw_case14 C0 hK hZ N Inv ad bd x3 h1 h2 h3 nxt ok.2.2.2.2.2.2.2.2.2.2.2.2.2.2.1 vi fa wi ga hI H locs ls hP hD hS hl
        · refine lv_tableIn (off := 511) (tgt := 543) hx hb dL_law_32 (by rw [ot]; decide) (by rw [ot]; decide) (by rw [ot]; rfl) (by decide) ?_
          exact lw_case15 C0 hK hZ N Inv ad bd x3 h1 h2 h3 nxt ok.2.2.2.2.2.2.2.2.2.2.2.2.2.2.2.1 vi fa wi ga hI H locs ls hP hD hS hl
        · refine lv_tableIn (off := 544) (tgt := 576) hx hb dL_law_32 (by rw [ot]; decide) (by rw [ot]; decide) (by rw [ot]; rfl) (by decide) ?_
          exact lw_case16 C0 hK hZ N Inv ad bd x3 h1 h2 h3 nxt ok.2.2.2.2.2.2.2.2.2.2.2.2.2.2.2.2.1 vi fa wi ga hI H locs ls hP hD hS hl
        · refine lv_tableIn (off := 567) (tgt := 599) hx hb dL_law_32 (by rw [ot]; decide) (by rw [ot]; decide) (by rw [ot]; rfl) (by decide) ?_
          exact lw_case17 C0 hK hZ N Inv ad bd x3 h1 h2 h3 nxt ok.2.2.2.2.2.2.2.2.2.2.2.2.2.2.2.2.2.1 vi fa wi ga hI H locs ls hP hD hS hl
        · refine lv_tableIn (off := 580) (tgt := 612) hx hb dL_law_32 (by rw [ot]; decide) (by rw [ot]; decide) (by rw [ot]; rfl) (by decide) ?_
          exact lw_case18 C0 hK hZ N Inv ad bd x3 h1 h2 h3 nxt ok.2.2.2.2.2.2.2.2.2.2.2.2.2.2.2.2.2.2.1 vi fa wi ga hI H locs ls hP hD hS hl
        · refine lv_tableIn (off := 603) (tgt := 635) hx hb dL_law_32 (by rw [ot]; decide) (by rw [ot]; decide) (by rw [ot]; rfl) (by decide) ?_
          exact lw_case19 C0 hK hZ N Inv ad bd x3 h1 h2 h3 nxt ok.2.2.2.2.2.2.2.2.2.2.2.2.2.2.2.2.2.2.2.1 vi fa wi ga hI H locs ls hP hD hS hl
        · refine lv_tableIn (off := 626) (tgt := 658) hx hb dL_law_32 (by rw [ot]; decide) (by rw [ot]; decide) (by rw [ot]; rfl) (by decide) ?_
          exact lw_case20 C0 hK hZ N Inv ad bd x3 h1 h2 h3 nxt ok.2.2.2.2.2.2.2.2.2.2.2.2.2.2.2.2.2.2.2.2.1 vi fa wi ga hI H locs ls hP hD hS hl
        · refine lv_tableIn (off := 649) (tgt := 681) hx hb dL_law_32 (by rw [ot]; decide) (by rw [ot]; decide) (by rw [ot]; rfl) (by decide) ?_
          exact lw_case21 C0 hK hZ N Inv ad bd x3 h1 h2 h3 nxt ok.2.2.2.2.2.2.2.2.2.2.2.2.2.2.2.2.2.2.2.2.2.1 vi fa wi ga hI H locs ls hP hD hS hl
        · refine lv_tableIn (off := 672) (tgt := 704) hx hb dL_law_32 (by rw [ot]; decide) (by rw [ot]; decide) (by rw [ot]; rfl) (by decide) ?_
          exact lw_case22 C0 hK hZ N Inv ad bd x3 h1 h2 h3 nxt ok.2.2.2.2.2.2.2.2.2.2.2.2.2.2.2.2.2.2.2.2.2.2.1 vi fa wi ga hI H locs ls hP hD hS hl
        · refine lv_tableIn (off := 705) (tgt := 737) hx hb dL_law_32 (by rw [ot]; decide) (by rw [ot]; decide) (by rw [ot]; rfl) (by decide) ?_
          exact lw_case23 C0 hK hZ N Inv ad bd x3 h1 h2 h3 nxt ok.2.2.2.2.2.2.2.2.2.2.2.2.2.2.2.2.2.2.2.2.2.2.2.1 vi fa wi ga hI H locs ls hP hD hS hl
        · refine lv_tableIn (off := 728) (tgt := 760) hx hb dL_law_32 (by rw [ot]; decide) (by rw [ot]; decide) (by rw [ot]; rfl) (by decide) ?_
          exact lw_case24 C0 hK hZ N Inv ad bd x3 h1 h2 h3 nxt ok.2.2.2.2.2.2.2.2.2.2.2.2.2.2.2.2.2.2.2.2.2.2.2.2.1 vi fa wi ga hI H locs ls hP hD hS hl
        · refine lv_tableIn (off := 741) (tgt := 773) hx hb dL_law_32 (by rw [ot]; decide) (by rw [ot]; decide) (by rw [ot]; rfl) (by decide) ?_
          exact lw_case25 C0 hK hZ N Inv ad bd x3 h1 h2 h3 nxt ok.2.2.2.2.2.2.2.2.2.2.2.2.2.2.2.2.2.2.2.2.2.2.2.2.2.1 vi fa wi ga hI H locs ls hP hD hS hl
        · refine lv_tableIn (off := 764) (tgt := 796) hx hb dL_law_32 (by rw [ot]; decide) (by rw [ot]; decide) (by rw [ot]; rfl) (by decide) ?_
          exact lw_case26 C0 hK hZ N Inv ad bd x3 h1 h2 h3 nxt ok.2.2.2.2.2.2.2.2.2.2.2.2.2.2.2.2.2.2.2.2.2.2.2.2.2.2.1 vi fa wi ga hI H locs ls hP hD hS hl
        · refine lv_tableIn (off := 807) (tgt := 839) hx hb dL_law_32 (by rw [ot]; decide) (by rw [ot]; decide) (by rw [ot]; rfl) (by decide) ?_
          exact lw_case27 C0 hK hZ N Inv ad bd x3 h1 h2 h3 nxt ok.2.2.2.2.2.2.2.2.2.2.2.2.2.2.2.2.2.2.2.2.2.2.2.2.2.2.2.1 vi fa wi ga hI H locs ls hP hD hS hl
        · refine lv_tableIn (off := 820) (tgt := 852) hx hb dL_law_32 (by rw [ot]; decide) (by rw [ot]; decide) (by rw [ot]; rfl) (by decide) ?_
          exact lw_case28 C0 hK hZ N Inv ad bd x3 h1 h2 h3 nxt ok.2.2.2.2.2.2.2.2.2.2.2.2.2.2.2.2.2.2.2.2.2.2.2.2.2.2.2.2.1 vi fa wi ga hI H locs ls hP hD hS hl
        · refine lv_tableIn (off := 833) (tgt := 865) hx hb dL_law_32 (by rw [ot]; decide) (by rw [ot]; decide) (by rw [ot]; rfl) (by decide) ?_
          exact lw_case29 C0 hK hZ N Inv ad bd x3 h1 h2 h3 nxt ok.2.2.2.2.2.2.2.2.2.2.2.2.2.2.2.2.2.2.2.2.2.2.2.2.2.2.2.2.2 vi fa wi ga hI H locs ls hP hD hS hl
      · refine lv_tableOut (tgt := 888) hx hb dL_law_32 (Or.inr (by rw [ot]; omega)) (by decide) ?_
        exact nxt vi fa wi ga hI H locs ls hP hD hS hl
