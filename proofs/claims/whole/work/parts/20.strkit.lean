/-! the Strings of the Teller: seven constants, by their places; what a method that touches them asks of its start -/
abbrev lenJ : List Nat := [4, 2, 5, 4, 0, 5, 5]
abbrev bytJ : List (List Int32) := [[35, 44, 57, 59], [57, 59], [107, 57, 44, 35, 59], [57, 44, 57, 59], [], [114, 98, 115, 100, 104], [118, 110, 97, 111, 101]]
abbrev idxJ : List Nat := [80, 82, 84, 86, 88, 94, 114]
abbrev txJ : List String := ["#,9;", "9;", "k9,#;", "9,9;", "", "\x72bsdh", "vnaoe"]
def zSt (adK adV : Nat → Nat) (fm : Value) (A : Nat → Prop) (U : State) : Prop :=
  vk_S 7 lenJ bytJ adK adV A U U.heap ∧ (∀ i : Nat, i < 7 → vk_R RX7 (idxJ.getD i 0) (txJ.getD i "") (adK i) U) ∧ va_Z "java/lang/String" "COMPACT_STRINGS" "Z" (.int 1) A U U.heap ∧ va_Z "jdk/internal/util/Preconditions" "SIOOBE_FORMATTER" "Ljava/util/function/BiFunction;" fm A U U.heap ∧ (fm = .null ∨ ∃ t : Nat, fm = .ref t)
theorem zSt.call {adK adV : Nat → Nat} {fm : Value} {A B : Nat → Prop} {s U : State} {H : Heap} {locs : List Loc} (h : zSt adK adV fm A s) (hS : va_S A s.heap H locs) (hB : ∀ q, B q → A q) (hU : U.heap = H) (hW : s.WarmedH U.vm) : zSt adK adV fm B U := by
  obtain ⟨h1, h2, h3, h4, h5⟩ := h
  refine ⟨?_, fun i hi => (h2 i hi).warm hW, ?_, ?_, h5⟩
  · rw [hU]; exact ((h1.kept hS.2.1).moved hW.alike).narrow hB
  · rw [hU]; exact ((h3.kept hS.2.1).moved hW.alike).narrow hB
  · rw [hU]; exact ((h4.kept hS.2.1).moved hW.alike).narrow hB
abbrev zPcS (D : va_G) (tys : List (ClassId × FieldType)) (adK adV : Nat → Nat) (fm : Value) (av : List Value) (sz : Nat) (w : va_W) : Array Value → State → Prop := va_Pc av (fun U => U.heap.size = sz ∧ va_P D vwCl w U.heap ∧ va_K D vwCl tys U ∧ va_D (fun _ => True) w ∧ zSt adK adV fm (va_A w sz) U)
theorem zBlindS {D : va_G} {tys : List (ClassId × FieldType)} {adK adV : Nat → Nat} {fm : Value} {av : List Value} {sz : Nat} {w : va_W} : FrameBlind (zPcS D tys adK adV fm av sz w) := fun a U g mk q => by
  obtain ⟨q0, q1, qP, qK, qD, z1, z2, z3, z4, z5⟩ := q
  refine ⟨q0, q1, qP, va_K.moved (u := U) (U := U.calling g mk a) (Vm.Alike.refl U.vm) qK, qD, ?_, fun i hi => vk_R.same (u := U) rfl (z2 i hi), ?_, ?_, z5⟩
  · exact vk_S.moved (u := U) (U := U.calling g mk a) (Vm.Alike.refl U.vm) z1
  · exact va_Z.moved (u := U) (U := U.calling g mk a) (Vm.Alike.refl U.vm) z3
  · exact va_Z.moved (u := U) (U := U.calling g mk a) (Vm.Alike.refl U.vm) z4
section ZS
variable {p : Program} {l : Launch} {e : Env} {R : Room} {s : State} {m : MethodId} {args : Array Value} {below : List Frame} {meth : Method} {c : Code} {H : Heap} {locs : List Loc} {cells slots : Nat} {Q : State → Prop}
variable {cc : ByteArray} {pc : Nat} {ls : Array Slot} {rest : List Value} {D : va_G} {tys : List (ClassId × FieldType)} {ws wc : va_W} {A : Nat → Prop} {st0 : List Value} {a : Array Value}
variable {Ts wsy ws' : List Cond} {bytes : ByteArray} {nL maxL index n : Nat} {own C : String} {y : MethodName} {ret : Option FieldType} {rm : Room} {b : Nat} {As : List Value} {adK adV : Nat → Nat} {fm : Value}
theorem zs_Vi {S : Type} {post : Int32 → S → Prop} {W1 : S → va_W} (F : CallFix p m c cc nL s args Ts own) (hM : Met l y wsy rm (zPcS D tys adK adV fm (.ref b :: As) H.size wc) (zQi D tys (va_A wc H.size) post W1) 0 0 (va_A wc H.size)) (hG : GoodIn Ts (wsV own index C y wsy)) (hw : wsy = Cond.code y bytes maxL ret :: ws') (hrc : rm.cells = 0) (hrs : rm.slots = 0)
    (hd : y.cls = C ∧ y.cls ≠ "java/lang/invoke/MethodHandle" ∧ y.cls ≠ "java/lang/invoke/VarHandle" ∧ (parseMethodDescriptor y.desc).map (fun d => d.parameters.length) = some n) (hRm : rm.frames + 1 ≤ R.frames ∧ 8 + (maxL + 11) + rm.locals ≤ R.locals)
    (hK : va_K D vwCl tys s) (hP : va_P D vwCl ws H) (hD : va_D A ws) (hS : va_S A s.heap H locs) (hA : ∀ q, s.heap.size ≤ q → A q) (hZ : zSt adK adV fm A s) (hrecv : ∃ cell : Cell, H[b]? = some cell ∧ cell.vm.isStatics = false ∧ s.vm.findClass C = some cell.cls) (hn : As.length = n) (hsize : ls.size = nL) (hst : st0 = As.reverse ++ .ref b :: rest) (hroom : (rest.map fun v => v.category).sum ≤ 8) (hdg : decode cc pc = .ok (.invokevirtual index, 3)) (hcs : cells ≤ R.cells ∧ slots ≤ R.slots)
    (isC isR : List Nat) (wr : va_W) (hC : isC.map (fun i => ws[i]?) = wc.map some) (hR : isR.map (fun i => ws[i]?) = wr.map some) (hni : va_nd isC = true) (hnr : va_nd isR = true) (hdis : ∀ i ∈ isR, i ∉ isC) (w2 : S → va_W) (isJ : List Nat) (hJ : ∀ u, isJ.map (fun i => (wr ++ W1 u)[i]?) = (w2 u).map some) (hnj : va_nd isJ = true)
    (kk : ∀ (r : Int32) (u : S) (H1 : Heap) (locs1 : List Loc), post r u → va_P D vwCl (w2 u) H1 → va_D A (w2 u) → va_S A s.heap H1 locs1 → W p l e R s m args below meth c H1 locs1 cells slots Q (F0 m (pc + 3) ls (.int r :: rest))) : W p l e R s m args below meth c H locs cells slots Q (F0 m pc ls st0) := by
  subst hst
  have hPc : va_P D vwCl wc H := zP_sub hP hC
  have hDc : va_D A wc := hD.sub isC hni hC
  have hFc := va_free (wc := wc) hD hS hA isC hC
  refine z_backi (a := (Value.ref b :: As).toArray) (va_runV (As := As) (rest := rest) F hM (cwV n F.2.2.2.2 hG hw hrc hrs hd hRm) ⟨zBlindS, hrecv, fun U hU hW => ⟨rfl, by rw [hU], by rw [hU]; exact hPc, va_K.moved hW.alike hK, hDc.weaken (fun _ _ _ _ => trivial), hZ.call hS hFc hU hW⟩⟩ rfl hn hsize rfl (lv_room hroom) hdg ⟨hcs.1, hcs.2⟩) hP hD hS hA isC isR wr hC hR hnr hdis w2 isJ hJ hnj kk
theorem zs_Si {S : Type} {post : Int32 → S → Prop} {W1 : S → va_W} (F : CallFix p m c cc nL s args Ts own) (hM : Met l y wsy rm (zPcS D tys adK adV fm As H.size wc) (zQi D tys (va_A wc H.size) post W1) 0 0 (va_A wc H.size)) (hG : GoodIn Ts (va_wsS own index y wsy)) (hw : wsy = Cond.code y bytes maxL ret :: ws') (hrc : rm.cells = 0) (hrs : rm.slots = 0)
    (hd : y.cls ≠ "java/lang/invoke/MethodHandle" ∧ y.cls ≠ "java/lang/invoke/VarHandle" ∧ (parseMethodDescriptor y.desc).map (fun d => d.parameters.length) = some n) (hRm : rm.frames + 1 ≤ R.frames ∧ 8 + (maxL + 11) + rm.locals ≤ R.locals)
    (hK : va_K D vwCl tys s) (hP : va_P D vwCl ws H) (hD : va_D A ws) (hS : va_S A s.heap H locs) (hA : ∀ q, s.heap.size ≤ q → A q) (hZ : zSt adK adV fm A s) (hn : As.length = n) (hsize : ls.size = nL) (hst : st0 = As.reverse ++ rest) (hroom : (rest.map fun v => v.category).sum ≤ 8) (hdg : decode cc pc = .ok (.invokestatic index, 3)) (hcs : cells ≤ R.cells ∧ slots ≤ R.slots)
    (isC isR : List Nat) (wr : va_W) (hC : isC.map (fun i => ws[i]?) = wc.map some) (hR : isR.map (fun i => ws[i]?) = wr.map some) (hni : va_nd isC = true) (hnr : va_nd isR = true) (hdis : ∀ i ∈ isR, i ∉ isC) (w2 : S → va_W) (isJ : List Nat) (hJ : ∀ u, isJ.map (fun i => (wr ++ W1 u)[i]?) = (w2 u).map some) (hnj : va_nd isJ = true)
    (kk : ∀ (r : Int32) (u : S) (H1 : Heap) (locs1 : List Loc), post r u → va_P D vwCl (w2 u) H1 → va_D A (w2 u) → va_S A s.heap H1 locs1 → W p l e R s m args below meth c H1 locs1 cells slots Q (F0 m (pc + 3) ls (.int r :: rest))) : W p l e R s m args below meth c H locs cells slots Q (F0 m pc ls st0) := by
  subst hst
  have hPc : va_P D vwCl wc H := zP_sub hP hC
  have hDc : va_D A wc := hD.sub isC hni hC
  have hFc := va_free (wc := wc) hD hS hA isC hC
  refine z_backi (a := As.toArray) (va_runS (As := As) (rest := rest) F hM (va_cwS n F.2.2.2.2 hG hw hrc hrs hd hRm) ⟨zBlindS, fun U hU hW => ⟨rfl, by rw [hU], by rw [hU]; exact hPc, va_K.moved hW.alike hK, hDc.weaken (fun _ _ _ _ => trivial), hZ.call hS hFc hU hW⟩⟩ rfl hn hsize rfl (lv_room hroom) hdg ⟨hcs.1, hcs.2⟩) hP hD hS hA isC isR wr hC hR hnr hdis w2 isJ hJ hnj kk
theorem zs_Sv {S : Type} {post : S → Prop} {W1 : S → va_W} (F : CallFix p m c cc nL s args Ts own) (hM : Met l y wsy rm (zPcS D tys adK adV fm As H.size wc) (zQv D tys (va_A wc H.size) post W1) 0 0 (va_A wc H.size)) (hG : GoodIn Ts (va_wsS own index y wsy)) (hw : wsy = Cond.code y bytes maxL ret :: ws') (hrc : rm.cells = 0) (hrs : rm.slots = 0)
    (hd : y.cls ≠ "java/lang/invoke/MethodHandle" ∧ y.cls ≠ "java/lang/invoke/VarHandle" ∧ (parseMethodDescriptor y.desc).map (fun d => d.parameters.length) = some n) (hRm : rm.frames + 1 ≤ R.frames ∧ 8 + (maxL + 11) + rm.locals ≤ R.locals)
    (hK : va_K D vwCl tys s) (hP : va_P D vwCl ws H) (hD : va_D A ws) (hS : va_S A s.heap H locs) (hA : ∀ q, s.heap.size ≤ q → A q) (hZ : zSt adK adV fm A s) (hn : As.length = n) (hsize : ls.size = nL) (hst : st0 = As.reverse ++ rest) (hroom : (rest.map fun v => v.category).sum ≤ 8) (hdg : decode cc pc = .ok (.invokestatic index, 3)) (hcs : cells ≤ R.cells ∧ slots ≤ R.slots)
    (isC isR : List Nat) (wr : va_W) (hC : isC.map (fun i => ws[i]?) = wc.map some) (hR : isR.map (fun i => ws[i]?) = wr.map some) (hni : va_nd isC = true) (hnr : va_nd isR = true) (hdis : ∀ i ∈ isR, i ∉ isC) (w2 : S → va_W) (isJ : List Nat) (hJ : ∀ u, isJ.map (fun i => (wr ++ W1 u)[i]?) = (w2 u).map some) (hnj : va_nd isJ = true)
    (kk : ∀ (u : S) (H1 : Heap) (locs1 : List Loc), post u → va_P D vwCl (w2 u) H1 → va_D A (w2 u) → va_S A s.heap H1 locs1 → W p l e R s m args below meth c H1 locs1 cells slots Q (F0 m (pc + 3) ls rest)) : W p l e R s m args below meth c H locs cells slots Q (F0 m pc ls st0) := by
  subst hst
  have hPc : va_P D vwCl wc H := zP_sub hP hC
  have hDc : va_D A wc := hD.sub isC hni hC
  have hFc := va_free (wc := wc) hD hS hA isC hC
  refine z_backv (a := As.toArray) (va_runS (As := As) (rest := rest) F hM (va_cwS n F.2.2.2.2 hG hw hrc hrs hd hRm) ⟨zBlindS, fun U hU hW => ⟨rfl, by rw [hU], by rw [hU]; exact hPc, va_K.moved hW.alike hK, hDc.weaken (fun _ _ _ _ => trivial), hZ.call hS hFc hU hW⟩⟩ rfl hn hsize rfl (lv_room hroom) hdg ⟨hcs.1, hcs.2⟩) hP hD hS hA isC isR wr hC hR hnr hdis w2 isJ hJ hnj kk
/-- a static method that answers one of the Strings -/
theorem zs_Sr {post : Nat → Prop} (F : CallFix p m c cc nL s args Ts own) (hM : Met l y wsy rm (zPcS D tys adK adV fm As H.size []) (va_Qr post (fun (u : Nat) (q : Nat) (_ : State) => u < 7 ∧ q = adK u) (va_A [] H.size)) 0 0 (va_A [] H.size)) (hG : GoodIn Ts (va_wsS own index y wsy)) (hw : wsy = Cond.code y bytes maxL ret :: ws') (hrc : rm.cells = 0) (hrs : rm.slots = 0)
    (hd : y.cls ≠ "java/lang/invoke/MethodHandle" ∧ y.cls ≠ "java/lang/invoke/VarHandle" ∧ (parseMethodDescriptor y.desc).map (fun d => d.parameters.length) = some n) (hRm : rm.frames + 1 ≤ R.frames ∧ 8 + (maxL + 11) + rm.locals ≤ R.locals)
    (hK : va_K D vwCl tys s) (hP : va_P D vwCl ws H) (hD : va_D A ws) (hS : va_S A s.heap H locs) (hA : ∀ q, s.heap.size ≤ q → A q) (hZ : zSt adK adV fm A s) (hn : As.length = n) (hsize : ls.size = nL) (hst : st0 = As.reverse ++ rest) (hroom : (rest.map fun v => v.category).sum ≤ 8) (hdg : decode cc pc = .ok (.invokestatic index, 3)) (hcs : cells ≤ R.cells ∧ slots ≤ R.slots)
    (kk : ∀ (u : Nat) (H1 : Heap) (locs1 : List Loc), u < 7 → post u → va_P D vwCl ws H1 → va_D A ws → va_S A s.heap H1 locs1 → W p l e R s m args below meth c H1 locs1 cells slots Q (F0 m (pc + 3) ls (.ref (adK u) :: rest))) : W p l e R s m args below meth c H locs cells slots Q (F0 m pc ls st0) := by
  subst hst
  have hFc := va_free (wc := []) hD hS hA [] rfl
  refine va_callr (a := As.toArray) (va_runS (As := As) (rest := rest) F hM (va_cwS n F.2.2.2.2 hG hw hrc hrs hd hRm) ⟨zBlindS, fun U hU hW => ⟨rfl, by rw [hU], fun k q h => by simp at h, va_K.moved hW.alike hK, ⟨fun i j p q h => by simp at h, fun k q h => by simp at h⟩, hZ.call hS hFc hU hW⟩⟩ rfl hn hsize rfl (lv_room hroom) hdg ⟨hcs.1, hcs.2⟩) hS (fun q _ h => hFc q h) hFc (fun u ra t H1 locs1 ht hvm hw hB hz1 hk1 hS1 => ?_)
  obtain ⟨hu, rfl⟩ := hB
  have hP1 : va_P D vwCl ws H1 := fun k q hk => by
    obtain ⟨hlt, -⟩ : q.1 < H.size ∧ True := by
      refine ⟨?_, trivial⟩
      have h0 := hP k q hk
      unfold va_at at h0
      split at h0
      · exact (Array.getElem?_eq_some_iff.mp h0).1
      · obtain ⟨r, hr, cell, hc, -⟩ := h0
        exact (Array.getElem?_eq_some_iff.mp hc).1
    refine (hP k q hk).kept (hk1 q.1 hlt ?_)
    rintro (⟨j, e9, h9⟩ | h9)
    · simp at h9
    · omega
  exact kk u H1 locs1 hu hw hP1 hD hS1
end ZS
theorem z_nc (x : Int32) : narrow .char (.int ((x &&& 255).toUInt32 % 65536).toInt32) = .int ((x &&& 255).toUInt32 % 65536).toInt32 := pk_nc _
