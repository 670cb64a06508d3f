/-! the two objects as the law has them: addresses ad, bd; ints vi, wi and arrays fa, ga by their places
class ints: 0 keeps, 1 letters.many, 2 now.tongue.words, 3 now.tongue.roads, 4 now.ring.places, 5 now.pairs.many, 6 kept.tongue.words, 7 kept.tongue.roads, 8 kept.ring.places, 9 kept.pairs.many, 10 teller.read, 11 teller.reader, 12 teller.lead, 13 teller.place, 14 teller.draft.words, 15 teller.draft.roads, 16 surveys.[0].kind, 17 surveys.[0].known, 18 surveys.[0].said, 19 surveys.[1].kind, 20 surveys.[1].known, 21 surveys.[1].said, 22 surveys.[2].kind, 23 surveys.[2].known, 24 surveys.[2].said, 25 surveys.[3].kind, 26 surveys.[3].known, 27 surveys.[3].said, 28 surveys.[4].kind, 29 surveys.[4].known, 30 surveys.[4].said, 31 eachSearch.known, 32 eachSearch.places, 33 wornSearch.known, 34 wornSearch.blanks, 35 wornSearch.many, 36 wornSearch.best
class arrays: 0 letters.signs, 1 now.tongue.kinds, 2 now.tongue.sets, 3 now.tongue.weights, 4 now.tongue.stocks, 5 now.tongue.readers, 6 now.tongue.eighths, 7 now.tongue.wishes, 8 now.ring.has, 9 now.pairs.ones, 10 now.pairs.others, 11 kept.tongue.kinds, 12 kept.tongue.sets, 13 kept.tongue.weights, 14 kept.tongue.stocks, 15 kept.tongue.readers, 16 kept.tongue.eighths, 17 kept.tongue.wishes, 18 kept.ring.has, 19 kept.pairs.ones, 20 kept.pairs.others, 21 teller.draft.kinds, 22 teller.draft.sets, 23 teller.draft.weights, 24 teller.draft.stocks, 25 teller.draft.readers, 26 teller.draft.eighths, 27 teller.draft.wishes, 28 teller.numbers, 29 surveys.[0].fewest, 30 surveys.[0].firsts, 31 surveys.[0].counts, 32 surveys.[0].saidWithout, 33 surveys.[0].row, 34 surveys.[1].fewest, 35 surveys.[1].firsts, 36 surveys.[1].counts, 37 surveys.[1].saidWithout, 38 surveys.[1].row, 39 surveys.[2].fewest, 40 surveys.[2].firsts, 41 surveys.[2].counts, 42 surveys.[2].saidWithout, 43 surveys.[2].row, 44 surveys.[3].fewest, 45 surveys.[3].firsts, 46 surveys.[3].counts, 47 surveys.[3].saidWithout, 48 surveys.[3].row, 49 surveys.[4].fewest, 50 surveys.[4].firsts, 51 surveys.[4].counts, 52 surveys.[4].saidWithout, 53 surveys.[4].row, 54 eachSearch.ring, 55 wornSearch.bestFill, 56 wornSearch.seen, 57 wornSearch.whole, 58 wornSearch.holes, 59 wornSearch.fill, 60 chain.ring, 61 chain.behind, 62 row, 63 tally, 64 refused
reference ints: 0 words, 1 roads, 2 places, 3 pairs, 4 kept, 5 place, 6 back, 7 taped, 8 at, 9 well, 10 sort, 11 fit, 12 most
reference arrays: 0 refused, 1 kind, 2 set, 3 weight, 4 stock, 5 reader, 6 eighth, 7 wish, 8 ring, 9 ahead, 10 behind, 11 then, 12 tape, 13 sorts, 14 readers, 15 field, 16 turning, 17 trial, 18 filled, 19 mayBe, 20 best, 21 round -/
abbrev zL (cI cC cS : ClassId) (ad bd : Nat → Nat) (vi : Nat → Int32) (fa : Nat → Nat → Int32) (wi : Nat → Int32) (ga : Nat → Nat → Int32) : va_W := [((ad 0), .inr (10, [.ref (ad 1), .ref (ad 3), .ref (ad 17), .int (vi 0), .ref (ad 31), .ref (ad 41), .ref (ad 72), .ref (ad 74), .ref (ad 80), .ref (ad 83), .ref (ad 84), .ref (ad 85)])),
  ((ad 1), .inr (2, [.ref (ad 2), .int (vi 1)])),
  ((ad 2), .inl (cI, 64, .inl (fa 0))),
  ((ad 3), .inr (8, [.ref (ad 4), .ref (ad 12), .ref (ad 14)])),
  ((ad 4), .inr (7, [.ref (ad 5), .ref (ad 6), .ref (ad 7), .ref (ad 8), .int (vi 2), .ref (ad 9), .ref (ad 10), .ref (ad 11), .int (vi 3)])),
  ((ad 5), .inl (cI, 6, .inl (fa 1))),
  ((ad 6), .inl (cI, 6, .inl (fa 2))),
  ((ad 7), .inl (cI, 6, .inl (fa 3))),
  ((ad 8), .inl (cI, 6, .inl (fa 4))),
  ((ad 9), .inl (cI, 6, .inl (fa 5))),
  ((ad 10), .inl (cI, 6, .inl (fa 6))),
  ((ad 11), .inl (cI, 6, .inl (fa 7))),
  ((ad 12), .inr (4, [.ref (ad 13), .int (vi 4)])),
  ((ad 13), .inl (cI, 12, .inl (fa 8))),
  ((ad 14), .inr (3, [.ref (ad 15), .ref (ad 16), .int (vi 5)])),
  ((ad 15), .inl (cI, 12, .inl (fa 9))),
  ((ad 16), .inl (cI, 12, .inl (fa 10))),
  ((ad 17), .inr (8, [.ref (ad 18), .ref (ad 26), .ref (ad 28)])),
  ((ad 18), .inr (7, [.ref (ad 19), .ref (ad 20), .ref (ad 21), .ref (ad 22), .int (vi 6), .ref (ad 23), .ref (ad 24), .ref (ad 25), .int (vi 7)])),
  ((ad 19), .inl (cI, 6, .inl (fa 11))),
  ((ad 20), .inl (cI, 6, .inl (fa 12))),
  ((ad 21), .inl (cI, 6, .inl (fa 13))),
  ((ad 22), .inl (cI, 6, .inl (fa 14))),
  ((ad 23), .inl (cI, 6, .inl (fa 15))),
  ((ad 24), .inl (cI, 6, .inl (fa 16))),
  ((ad 25), .inl (cI, 6, .inl (fa 17))),
  ((ad 26), .inr (4, [.ref (ad 27), .int (vi 8)])),
  ((ad 27), .inl (cI, 12, .inl (fa 18))),
  ((ad 28), .inr (3, [.ref (ad 29), .ref (ad 30), .int (vi 9)])),
  ((ad 29), .inl (cI, 12, .inl (fa 19))),
  ((ad 30), .inl (cI, 12, .inl (fa 20))),
  ((ad 31), .inr (6, [.ref (ad 32), .ref (ad 40), .int (vi 10), .int (vi 11), .int (vi 12), .int (vi 13)])),
  ((ad 32), .inr (7, [.ref (ad 33), .ref (ad 34), .ref (ad 35), .ref (ad 36), .int (vi 14), .ref (ad 37), .ref (ad 38), .ref (ad 39), .int (vi 15)])),
  ((ad 33), .inl (cI, 6, .inl (fa 21))),
  ((ad 34), .inl (cI, 6, .inl (fa 22))),
  ((ad 35), .inl (cI, 6, .inl (fa 23))),
  ((ad 36), .inl (cI, 6, .inl (fa 24))),
  ((ad 37), .inl (cI, 6, .inl (fa 25))),
  ((ad 38), .inl (cI, 6, .inl (fa 26))),
  ((ad 39), .inl (cI, 6, .inl (fa 27))),
  ((ad 40), .inl (cI, 2, .inl (fa 28))),
  ((ad 41), .inl (cS, 5, .inr (.inr (.inr (.inr (va_up (va_up (va_up (va_up (va_up (fun _ => none) (Int32.toNatClampNeg 0) (some (ad 42))) (Int32.toNatClampNeg 1) (some (ad 48))) (Int32.toNatClampNeg 2) (some (ad 54))) (Int32.toNatClampNeg 3) (some (ad 60))) (Int32.toNatClampNeg 4) (some (ad 66)))))))),
  ((ad 42), .inr (5, [.int (vi 16), .int (vi 17), .ref (ad 43), .ref (ad 44), .ref (ad 45), .int (vi 18), .ref (ad 46), .ref (ad 47)])),
  ((ad 43), .inl (cI, 16, .inl (fa 29))),
  ((ad 44), .inl (cI, 80, .inl (fa 30))),
  ((ad 45), .inl (cI, 6, .inl (fa 31))),
  ((ad 46), .inl (cI, 6, .inl (fa 32))),
  ((ad 47), .inl (cI, 5, .inl (fa 33))),
  ((ad 48), .inr (5, [.int (vi 19), .int (vi 20), .ref (ad 49), .ref (ad 50), .ref (ad 51), .int (vi 21), .ref (ad 52), .ref (ad 53)])),
  ((ad 49), .inl (cI, 16, .inl (fa 34))),
  ((ad 50), .inl (cI, 80, .inl (fa 35))),
  ((ad 51), .inl (cI, 6, .inl (fa 36))),
  ((ad 52), .inl (cI, 6, .inl (fa 37))),
  ((ad 53), .inl (cI, 5, .inl (fa 38))),
  ((ad 54), .inr (5, [.int (vi 22), .int (vi 23), .ref (ad 55), .ref (ad 56), .ref (ad 57), .int (vi 24), .ref (ad 58), .ref (ad 59)])),
  ((ad 55), .inl (cI, 16, .inl (fa 39))),
  ((ad 56), .inl (cI, 80, .inl (fa 40))),
  ((ad 57), .inl (cI, 6, .inl (fa 41))),
  ((ad 58), .inl (cI, 6, .inl (fa 42))),
  ((ad 59), .inl (cI, 5, .inl (fa 43))),
  ((ad 60), .inr (5, [.int (vi 25), .int (vi 26), .ref (ad 61), .ref (ad 62), .ref (ad 63), .int (vi 27), .ref (ad 64), .ref (ad 65)])),
  ((ad 61), .inl (cI, 16, .inl (fa 44))),
  ((ad 62), .inl (cI, 80, .inl (fa 45))),
  ((ad 63), .inl (cI, 6, .inl (fa 46))),
  ((ad 64), .inl (cI, 6, .inl (fa 47))),
  ((ad 65), .inl (cI, 5, .inl (fa 48))),
  ((ad 66), .inr (5, [.int (vi 28), .int (vi 29), .ref (ad 67), .ref (ad 68), .ref (ad 69), .int (vi 30), .ref (ad 70), .ref (ad 71)])),
  ((ad 67), .inl (cI, 16, .inl (fa 49))),
  ((ad 68), .inl (cI, 80, .inl (fa 50))),
  ((ad 69), .inl (cI, 6, .inl (fa 51))),
  ((ad 70), .inl (cI, 6, .inl (fa 52))),
  ((ad 71), .inl (cI, 5, .inl (fa 53))),
  ((ad 72), .inr (1, [.int (vi 31), .int (vi 32), .ref (ad 73)])),
  ((ad 73), .inl (cI, 5, .inl (fa 54))),
  ((ad 74), .inr (9, [.int (vi 33), .int (vi 34), .int (vi 35), .int (vi 36), .ref (ad 75), .ref (ad 76), .ref (ad 77), .ref (ad 78), .ref (ad 79)])),
  ((ad 75), .inl (cI, 4, .inl (fa 55))),
  ((ad 76), .inl (cI, 12, .inl (fa 56))),
  ((ad 77), .inl (cI, 12, .inl (fa 57))),
  ((ad 78), .inl (cI, 4, .inl (fa 58))),
  ((ad 79), .inl (cI, 4, .inl (fa 59))),
  ((ad 80), .inr (0, [.ref (ad 81), .ref (ad 82)])),
  ((ad 81), .inl (cI, 12, .inl (fa 60))),
  ((ad 82), .inl (cI, 6, .inl (fa 61))),
  ((ad 83), .inl (cI, 12, .inl (fa 62))),
  ((ad 84), .inl (cI, 6, .inl (fa 63))),
  ((ad 85), .inl (cI, 7, .inl (fa 64))),
  ((bd 0), .inr (11, [.ref (bd 1), .int (wi 0), .ref (bd 2), .ref (bd 3), .ref (bd 4), .ref (bd 5), .int (wi 1), .ref (bd 6), .ref (bd 7), .ref (bd 8), .int (wi 2), .ref (bd 9), .int (wi 3), .ref (bd 10), .ref (bd 11), .int (wi 4), .ref (bd 12), .int (wi 5), .int (wi 6), .ref (bd 13), .int (wi 7), .int (wi 8), .int (wi 9), .ref (bd 14), .ref (bd 15), .int (wi 10), .ref (bd 16), .ref (bd 17), .ref (bd 18), .ref (bd 19), .ref (bd 20), .ref (bd 21), .int (wi 11), .int (wi 12), .ref (bd 22)])),
  ((bd 1), .inl (cI, 7, .inl (ga 0))),
  ((bd 2), .inl (cI, 6, .inl (ga 1))),
  ((bd 3), .inl (cI, 6, .inl (ga 2))),
  ((bd 4), .inl (cI, 6, .inl (ga 3))),
  ((bd 5), .inl (cI, 6, .inl (ga 4))),
  ((bd 6), .inl (cI, 6, .inl (ga 5))),
  ((bd 7), .inl (cI, 6, .inl (ga 6))),
  ((bd 8), .inl (cI, 6, .inl (ga 7))),
  ((bd 9), .inl (cI, 12, .inl (ga 8))),
  ((bd 10), .inl (cI, 12, .inl (ga 9))),
  ((bd 11), .inl (cI, 12, .inl (ga 10))),
  ((bd 12), .inl (cI, 90, .inl (ga 11))),
  ((bd 13), .inl (cI, 64, .inl (ga 12))),
  ((bd 14), .inl (cC, 7, .inl (ga 13))),
  ((bd 15), .inl (cC, 5, .inl (ga 14))),
  ((bd 16), .inl (cI, 3, .inl (ga 15))),
  ((bd 17), .inl (cI, 13, .inl (ga 16))),
  ((bd 18), .inl (cI, 6, .inl (ga 17))),
  ((bd 19), .inl (cI, 12, .inl (ga 18))),
  ((bd 20), .inl (cI, 12, .inl (ga 19))),
  ((bd 21), .inl (cI, 4, .inl (ga 20))),
  ((bd 22), .inl (cI, 13, .inl (ga 21)))]
def vi0 : Nat → Int32 := fun k => if k = 19 then 1 else if k = 22 then 2 else if k = 25 then 3 else if k = 28 then 4 else if k = 36 then (-9) else 0
def wi0 : Nat → Int32 := fun k =>  0
def fa0 : Nat → Nat → Int32 := fun _ _ => 0
def ga0 : Nat → Nat → Int32 := fun k => if k = 13 then (upd (upd (upd (upd (upd (upd (upd (fun _ => 0) (Int32.toNatClampNeg 0) (vp_nar .char 118)) (Int32.toNatClampNeg 1) (vp_nar .char 110)) (Int32.toNatClampNeg 2) (vp_nar .char 97)) (Int32.toNatClampNeg 3) (vp_nar .char 111)) (Int32.toNatClampNeg 4) (vp_nar .char 101)) (Int32.toNatClampNeg 5) (vp_nar .char 114)) (Int32.toNatClampNeg 6) (vp_nar .char 115)) else if k = 14 then (upd (upd (upd (upd (upd (fun _ => 0) (Int32.toNatClampNeg 0) (vp_nar .char 114)) (Int32.toNatClampNeg 1) (vp_nar .char 98)) (Int32.toNatClampNeg 2) (vp_nar .char 115)) (Int32.toNatClampNeg 3) (vp_nar .char 100)) (Int32.toNatClampNeg 4) (vp_nar .char 104)) else fun _ => 0
/-- X11_letter -/
def zop0 (N : Nat) (Inv : (Nat → Int32) → (Nat → Nat → Int32) → (Nat → Int32) → (Nat → Nat → Int32) → Prop) : Prop := ∀ (vi : Nat → Int32) (fa : Nat → Nat → Int32) (wi : Nat → Int32) (ga : Nat → Nat → Int32) (x1 : Int32), Inv vi fa wi ga →
    wp_X11_letter N x1 (vi 1) (fa 0) (fa 64) (fun r o0 o1 o2 => 
      wp_X12_letter N x1 (wi 7) (ga 0) (ga 12) (fun r' p0 p1 p2 => r = r' ∧ Inv (va_up vi 1 o0) (va_up (va_up fa 0 o1) 64 o2) (va_up wi 7 p0) (va_up (va_up ga 0 p1) 12 p2)))
/-- X11_tongue -/
def zop1 (N : Nat) (Inv : (Nat → Int32) → (Nat → Nat → Int32) → (Nat → Int32) → (Nat → Nat → Int32) → Prop) : Prop := ∀ (vi : Nat → Int32) (fa : Nat → Nat → Int32) (wi : Nat → Int32) (ga : Nat → Nat → Int32), Inv vi fa wi ga →
    wp_X11_tongue N (vi 1) (fa 0) (vi 2) (vi 3) (fa 1) (fa 2) (fa 3) (fa 4) (fa 5) (fa 6) (fa 7) (vi 10) (vi 11) (vi 12) (vi 13) (vi 14) (vi 15) (fa 21) (fa 22) (fa 23) (fa 24) (fa 25) (fa 26) (fa 27) (fa 28) (vi 17) (vi 20) (vi 23) (vi 26) (vi 29) (vi 31) (vi 33) (fun r o0 o1 o2 o3 o4 o5 o6 o7 o8 o9 o10 o11 o12 o13 o14 o15 o16 o17 o18 o19 o20 o21 o22 o23 o24 o25 o26 o27 o28 o29 o30 => 
      wp_X12_tongue N (wi 0) (wi 1) (wi 7) (wi 8) (wi 9) (wi 10) (ga 1) (ga 2) (ga 3) (ga 4) (ga 5) (ga 6) (ga 7) (ga 12) (ga 13) (ga 14) (ga 15) (fun r' p0 p1 p2 p3 p4 p5 p6 p7 p8 p9 p10 p11 p12 p13 => r = r' ∧ Inv (va_up (va_up (va_up (va_up (va_up (va_up (va_up (va_up (va_up (va_up (va_up (va_up (va_up (va_up (va_up (va_up vi 1 o0) 2 o1) 3 o2) 10 o10) 11 o11) 12 o12) 13 o13) 14 o14) 15 o15) 17 o24) 20 o25) 23 o26) 26 o27) 29 o28) 31 o29) 33 o30) (va_up (va_up (va_up (va_up (va_up (va_up (va_up (va_up (va_up (va_up (va_up (va_up (va_up (va_up (va_up fa 1 o3) 2 o4) 3 o5) 4 o6) 5 o7) 6 o8) 7 o9) 21 o16) 22 o17) 23 o18) 24 o19) 25 o20) 26 o21) 27 o22) 28 o23) (va_up (va_up (va_up (va_up (va_up (va_up wi 0 p0) 1 p1) 7 p2) 8 p3) 9 p4) 10 p5) (va_up (va_up (va_up (va_up (va_up (va_up (va_up (va_up ga 1 p6) 2 p7) 3 p8) 4 p9) 5 p10) 6 p11) 7 p12) 15 p13)))
/-- X11_word -/
def zop2 (N : Nat) (Inv : (Nat → Int32) → (Nat → Nat → Int32) → (Nat → Int32) → (Nat → Nat → Int32) → Prop) : Prop := ∀ (vi : Nat → Int32) (fa : Nat → Nat → Int32) (wi : Nat → Int32) (ga : Nat → Nat → Int32) (x1 : Int32) (x2 : Int32), Inv vi fa wi ga →
    wp_X11_word N x1 x2 (vi 2) (fa 1) (fa 2) (fa 3) (fa 4) (fa 64) (fun r o0 => 
      wp_X12_word N x1 x2 (wi 0) (ga 0) (ga 1) (ga 2) (ga 3) (ga 4) (fun r' p0 => r = r' ∧ Inv vi (va_up fa 64 o0) wi (va_up ga 0 p0)))
/-- X11_road -/
def zop3 (N : Nat) (Inv : (Nat → Int32) → (Nat → Nat → Int32) → (Nat → Int32) → (Nat → Nat → Int32) → Prop) : Prop := ∀ (vi : Nat → Int32) (fa : Nat → Nat → Int32) (wi : Nat → Int32) (ga : Nat → Nat → Int32) (x1 : Int32) (x2 : Int32), Inv vi fa wi ga →
    wp_X11_road N x1 x2 (vi 2) (vi 3) (fa 1) (fa 2) (fa 5) (fa 6) (fa 7) (vi 4) (fa 8) (fa 64) (fun r o0 => 
      wp_X12_road N x1 x2 (wi 1) (wi 2) (ga 0) (ga 1) (ga 2) (ga 5) (ga 6) (ga 7) (ga 8) (fun r' p0 => r = r' ∧ Inv vi (va_up fa 64 o0) wi (va_up ga 0 p0)))
/-- X11_stone -/
def zop4 (N : Nat) (Inv : (Nat → Int32) → (Nat → Nat → Int32) → (Nat → Int32) → (Nat → Nat → Int32) → Prop) : Prop := ∀ (vi : Nat → Int32) (fa : Nat → Nat → Int32) (wi : Nat → Int32) (ga : Nat → Nat → Int32) (x1 : Int32), Inv vi fa wi ga →
    wp_X11_stone N x1 (vi 2) (vi 4) (fa 8) (vi 33) (fa 64) (fun r o0 o1 o2 o3 => 
      wp_X12_stone N x1 (wi 0) (wi 2) (ga 0) (ga 8) (fun r' p0 p1 p2 => r = r' ∧ Inv (va_up (va_up vi 4 o0) 33 o2) (va_up (va_up fa 8 o1) 64 o3) (va_up wi 2 p0) (va_up (va_up ga 0 p1) 8 p2)))
/-- X11_put -/
def zop5 (N : Nat) (Inv : (Nat → Int32) → (Nat → Nat → Int32) → (Nat → Int32) → (Nat → Nat → Int32) → Prop) : Prop := ∀ (vi : Nat → Int32) (fa : Nat → Nat → Int32) (wi : Nat → Int32) (ga : Nat → Nat → Int32) (x1 : Int32) (x2 : Int32), Inv vi fa wi ga →
    wp_X11_put N x1 x2 (vi 2) (vi 4) (fa 8) (vi 33) (fa 64) (fun r o0 o1 o2 => 
      wp_X12_put N x1 x2 (wi 0) (wi 2) (ga 0) (ga 8) (fun r' p0 p1 => r = r' ∧ Inv (va_up vi 33 o1) (va_up (va_up fa 8 o0) 64 o2) wi (va_up (va_up ga 0 p0) 8 p1)))
/-- X11_turn -/
def zop6 (N : Nat) (Inv : (Nat → Int32) → (Nat → Nat → Int32) → (Nat → Int32) → (Nat → Nat → Int32) → Prop) : Prop := ∀ (vi : Nat → Int32) (fa : Nat → Nat → Int32) (wi : Nat → Int32) (ga : Nat → Nat → Int32) (x1 : Int32), Inv vi fa wi ga →
    wp_X11_turn N x1 (vi 4) (fa 8) (vi 33) (fa 62) (fa 64) (fun r o0 o1 o2 o3 => 
      wp_X12_turn N x1 (wi 2) (ga 0) (ga 8) (ga 16) (fun r' p0 p1 p2 => r = r' ∧ Inv (va_up vi 33 o1) (va_up (va_up (va_up fa 8 o0) 62 o2) 64 o3) wi (va_up (va_up (va_up ga 0 p0) 8 p1) 16 p2)))
/-- X11_bare -/
def zop7 (N : Nat) (Inv : (Nat → Int32) → (Nat → Nat → Int32) → (Nat → Int32) → (Nat → Nat → Int32) → Prop) : Prop := ∀ (vi : Nat → Int32) (fa : Nat → Nat → Int32) (wi : Nat → Int32) (ga : Nat → Nat → Int32), Inv vi fa wi ga →
    wp_X11_bare N (vi 4) (vi 33) (fun r o0 o1 => 
      wp_X12_bare N (wi 2) (fun r' p0 => r = r' ∧ Inv (va_up (va_up vi 4 o0) 33 o1) fa (va_up wi 2 p0) ga))
/-- X11_at -/
def zop8 (N : Nat) (Inv : (Nat → Int32) → (Nat → Nat → Int32) → (Nat → Int32) → (Nat → Nat → Int32) → Prop) : Prop := ∀ (vi : Nat → Int32) (fa : Nat → Nat → Int32) (wi : Nat → Int32) (ga : Nat → Nat → Int32) (x1 : Int32), Inv vi fa wi ga →
    wp_X11_at N x1 (vi 4) (fa 8) (fa 64) (fun r o0 => 
      wp_X12_at N x1 (wi 2) (ga 0) (ga 8) (fun r' p0 => r = r' ∧ Inv vi (va_up fa 64 o0) wi (va_up ga 0 p0)))
/-- X11_reads -/
def zop9 (N : Nat) (Inv : (Nat → Int32) → (Nat → Nat → Int32) → (Nat → Int32) → (Nat → Nat → Int32) → Prop) : Prop := ∀ (vi : Nat → Int32) (fa : Nat → Nat → Int32) (wi : Nat → Int32) (ga : Nat → Nat → Int32) (x1 : Int32) (x2 : Int32), Inv vi fa wi ga →
    wp_X11_reads N x1 x2 (vi 2) (fa 1) (fa 2) (vi 4) (fa 8) (fa 64) (fun r o0 => 
      wp_X12_reads_ N x1 x2 (wi 2) (ga 0) (ga 1) (ga 2) (ga 8) (fun r' p0 => r = r' ∧ Inv vi (va_up fa 64 o0) wi (va_up ga 0 p0)))
/-- X11_same -/
def zop10 (N : Nat) (Inv : (Nat → Int32) → (Nat → Nat → Int32) → (Nat → Int32) → (Nat → Nat → Int32) → Prop) : Prop := ∀ (vi : Nat → Int32) (fa : Nat → Nat → Int32) (wi : Nat → Int32) (ga : Nat → Nat → Int32) (x1 : Int32), Inv vi fa wi ga →
    wp_X11_same N x1 (vi 2) (fa 1) (fa 2) (vi 4) (fa 8) (fa 64) (fun r o0 => 
      wp_X12_same N x1 (wi 2) (ga 0) (ga 1) (ga 2) (ga 8) (fun r' p0 => r = r' ∧ Inv vi (va_up fa 64 o0) wi (va_up ga 0 p0)))
/-- X11_says -/
def zop11 (N : Nat) (Inv : (Nat → Int32) → (Nat → Nat → Int32) → (Nat → Int32) → (Nat → Nat → Int32) → Prop) : Prop := ∀ (vi : Nat → Int32) (fa : Nat → Nat → Int32) (wi : Nat → Int32) (ga : Nat → Nat → Int32) (x1 : Int32), Inv vi fa wi ga →
    wp_X11_says N x1 (vi 2) (fa 1) (fa 2) (vi 4) (fa 8) (fa 64) (fun r o0 => 
      wp_X12_says N x1 (wi 2) (ga 0) (ga 1) (ga 2) (ga 8) (fun r' p0 => r = r' ∧ Inv vi (va_up fa 64 o0) wi (va_up ga 0 p0)))
/-- X11_judge -/
def zop12 (N : Nat) (Inv : (Nat → Int32) → (Nat → Nat → Int32) → (Nat → Int32) → (Nat → Nat → Int32) → Prop) : Prop := ∀ (vi : Nat → Int32) (fa : Nat → Nat → Int32) (wi : Nat → Int32) (ga : Nat → Nat → Int32), Inv vi fa wi ga →
    wp_X11_judge N (vi 2) (vi 3) (fa 1) (fa 2) (fa 5) (fa 6) (fa 7) (vi 4) (fa 8) (fa 64) (fun r o0 => 
      wp_X12_judge N (wi 1) (wi 2) (ga 0) (ga 1) (ga 2) (ga 5) (ga 6) (ga 7) (ga 8) (fun r' p0 => r = r' ∧ Inv vi (va_up fa 64 o0) wi (va_up ga 0 p0)))
/-- X11_shortest -/
def zop13 (N : Nat) (Inv : (Nat → Int32) → (Nat → Nat → Int32) → (Nat → Int32) → (Nat → Nat → Int32) → Prop) : Prop := ∀ (vi : Nat → Int32) (fa : Nat → Nat → Int32) (wi : Nat → Int32) (ga : Nat → Nat → Int32) (x1 : Int32) (x2 : Int32) (x3 : Int32), Inv vi fa wi ga →
    (x2 = 0 → wp_X11_shortest N x1 x2 x3 (vi 2) (fa 1) (fa 2) (vi 16) (vi 17) (vi 18) (fa 29) (fa 30) (fa 31) (fa 32) (fa 33) (fa 64) (fun r o0 o1 o2 o3 o4 o5 o6 o7 => 
      wp_X12_shortest N x1 x2 x3 (wi 0) (ga 0) (ga 1) (ga 2) (ga 17) (fun r' p0 p1 => r = r' ∧ Inv (va_up (va_up vi 17 o0) 18 o1) (va_up (va_up (va_up (va_up (va_up (va_up fa 29 o2) 30 o3) 31 o4) 32 o5) 33 o6) 64 o7) wi (va_up (va_up ga 0 p0) 17 p1)))) ∧
    (x2 = 1 → wp_X11_shortest N x1 x2 x3 (vi 2) (fa 1) (fa 2) (vi 19) (vi 20) (vi 21) (fa 34) (fa 35) (fa 36) (fa 37) (fa 38) (fa 64) (fun r o0 o1 o2 o3 o4 o5 o6 o7 => 
      wp_X12_shortest N x1 x2 x3 (wi 0) (ga 0) (ga 1) (ga 2) (ga 17) (fun r' p0 p1 => r = r' ∧ Inv (va_up (va_up vi 20 o0) 21 o1) (va_up (va_up (va_up (va_up (va_up (va_up fa 34 o2) 35 o3) 36 o4) 37 o5) 38 o6) 64 o7) wi (va_up (va_up ga 0 p0) 17 p1)))) ∧
    (x2 = 2 → wp_X11_shortest N x1 x2 x3 (vi 2) (fa 1) (fa 2) (vi 22) (vi 23) (vi 24) (fa 39) (fa 40) (fa 41) (fa 42) (fa 43) (fa 64) (fun r o0 o1 o2 o3 o4 o5 o6 o7 => 
      wp_X12_shortest N x1 x2 x3 (wi 0) (ga 0) (ga 1) (ga 2) (ga 17) (fun r' p0 p1 => r = r' ∧ Inv (va_up (va_up vi 23 o0) 24 o1) (va_up (va_up (va_up (va_up (va_up (va_up fa 39 o2) 40 o3) 41 o4) 42 o5) 43 o6) 64 o7) wi (va_up (va_up ga 0 p0) 17 p1)))) ∧
    (x2 = 3 → wp_X11_shortest N x1 x2 x3 (vi 2) (fa 1) (fa 2) (vi 25) (vi 26) (vi 27) (fa 44) (fa 45) (fa 46) (fa 47) (fa 48) (fa 64) (fun r o0 o1 o2 o3 o4 o5 o6 o7 => 
      wp_X12_shortest N x1 x2 x3 (wi 0) (ga 0) (ga 1) (ga 2) (ga 17) (fun r' p0 p1 => r = r' ∧ Inv (va_up (va_up vi 26 o0) 27 o1) (va_up (va_up (va_up (va_up (va_up (va_up fa 44 o2) 45 o3) 46 o4) 47 o5) 48 o6) 64 o7) wi (va_up (va_up ga 0 p0) 17 p1)))) ∧
    (x2 = 4 → wp_X11_shortest N x1 x2 x3 (vi 2) (fa 1) (fa 2) (vi 28) (vi 29) (vi 30) (fa 49) (fa 50) (fa 51) (fa 52) (fa 53) (fa 64) (fun r o0 o1 o2 o3 o4 o5 o6 o7 => 
      wp_X12_shortest N x1 x2 x3 (wi 0) (ga 0) (ga 1) (ga 2) (ga 17) (fun r' p0 p1 => r = r' ∧ Inv (va_up (va_up vi 29 o0) 30 o1) (va_up (va_up (va_up (va_up (va_up (va_up fa 49 o2) 50 o3) 51 o4) 52 o5) 53 o6) 64 o7) wi (va_up (va_up ga 0 p0) 17 p1)))) ∧
    (¬ vp_in x2 5 → wp_X11_shortest N x1 x2 x3 (vi 2) (fa 1) (fa 2) (vi 16) (vi 17) (vi 18) (fa 29) (fa 30) (fa 31) (fa 32) (fa 33) (fa 64) (fun r o0 o1 o2 o3 o4 o5 o6 o7 => 
      wp_X12_shortest N x1 x2 x3 (wi 0) (ga 0) (ga 1) (ga 2) (ga 17) (fun r' p0 p1 => r = r' ∧ Inv (va_up (va_up vi 17 o0) 18 o1) (va_up (va_up (va_up (va_up (va_up (va_up fa 29 o2) 30 o3) 31 o4) 32 o5) 33 o6) 64 o7) wi (va_up (va_up ga 0 p0) 17 p1))))
/-- X11_each -/
def zop14 (N : Nat) (Inv : (Nat → Int32) → (Nat → Nat → Int32) → (Nat → Int32) → (Nat → Nat → Int32) → Prop) : Prop := ∀ (vi : Nat → Int32) (fa : Nat → Nat → Int32) (wi : Nat → Int32) (ga : Nat → Nat → Int32) (x1 : Int32), Inv vi fa wi ga →
    wp_X11_each N x1 (vi 2) (vi 3) (fa 1) (fa 2) (fa 5) (fa 6) (fa 7) (vi 31) (vi 32) (fa 54) (fa 64) (fun r o0 o1 o2 o3 => 
      wp_X12_each N x1 (wi 0) (wi 1) (ga 0) (ga 1) (ga 2) (ga 5) (ga 6) (ga 7) (ga 17) (fun r' p0 p1 => r = r' ∧ Inv (va_up (va_up vi 31 o0) 32 o1) (va_up (va_up fa 54 o2) 64 o3) wi (va_up (va_up ga 0 p0) 17 p1)))
/-- X11_rings -/
def zop15 (N : Nat) (Inv : (Nat → Int32) → (Nat → Nat → Int32) → (Nat → Int32) → (Nat → Nat → Int32) → Prop) : Prop := ∀ (vi : Nat → Int32) (fa : Nat → Nat → Int32) (wi : Nat → Int32) (ga : Nat → Nat → Int32) (x1 : Int32) (x2 : Int32), Inv vi fa wi ga →
    (x2 = 0 → wp_X11_rings N x1 x2 (vi 2) (fa 1) (fa 2) (vi 16) (vi 17) (vi 18) (fa 29) (fa 30) (fa 31) (fa 32) (fa 33) (fa 64) (fun r o0 o1 o2 o3 o4 o5 o6 o7 => 
      wp_X12_rings N x1 x2 (wi 0) (ga 0) (ga 1) (ga 2) (ga 17) (fun r' p0 p1 => r = r' ∧ Inv (va_up (va_up vi 17 o0) 18 o1) (va_up (va_up (va_up (va_up (va_up (va_up fa 29 o2) 30 o3) 31 o4) 32 o5) 33 o6) 64 o7) wi (va_up (va_up ga 0 p0) 17 p1)))) ∧
    (x2 = 1 → wp_X11_rings N x1 x2 (vi 2) (fa 1) (fa 2) (vi 19) (vi 20) (vi 21) (fa 34) (fa 35) (fa 36) (fa 37) (fa 38) (fa 64) (fun r o0 o1 o2 o3 o4 o5 o6 o7 => 
      wp_X12_rings N x1 x2 (wi 0) (ga 0) (ga 1) (ga 2) (ga 17) (fun r' p0 p1 => r = r' ∧ Inv (va_up (va_up vi 20 o0) 21 o1) (va_up (va_up (va_up (va_up (va_up (va_up fa 34 o2) 35 o3) 36 o4) 37 o5) 38 o6) 64 o7) wi (va_up (va_up ga 0 p0) 17 p1)))) ∧
    (x2 = 2 → wp_X11_rings N x1 x2 (vi 2) (fa 1) (fa 2) (vi 22) (vi 23) (vi 24) (fa 39) (fa 40) (fa 41) (fa 42) (fa 43) (fa 64) (fun r o0 o1 o2 o3 o4 o5 o6 o7 => 
      wp_X12_rings N x1 x2 (wi 0) (ga 0) (ga 1) (ga 2) (ga 17) (fun r' p0 p1 => r = r' ∧ Inv (va_up (va_up vi 23 o0) 24 o1) (va_up (va_up (va_up (va_up (va_up (va_up fa 39 o2) 40 o3) 41 o4) 42 o5) 43 o6) 64 o7) wi (va_up (va_up ga 0 p0) 17 p1)))) ∧
    (x2 = 3 → wp_X11_rings N x1 x2 (vi 2) (fa 1) (fa 2) (vi 25) (vi 26) (vi 27) (fa 44) (fa 45) (fa 46) (fa 47) (fa 48) (fa 64) (fun r o0 o1 o2 o3 o4 o5 o6 o7 => 
      wp_X12_rings N x1 x2 (wi 0) (ga 0) (ga 1) (ga 2) (ga 17) (fun r' p0 p1 => r = r' ∧ Inv (va_up (va_up vi 26 o0) 27 o1) (va_up (va_up (va_up (va_up (va_up (va_up fa 44 o2) 45 o3) 46 o4) 47 o5) 48 o6) 64 o7) wi (va_up (va_up ga 0 p0) 17 p1)))) ∧
    (x2 = 4 → wp_X11_rings N x1 x2 (vi 2) (fa 1) (fa 2) (vi 28) (vi 29) (vi 30) (fa 49) (fa 50) (fa 51) (fa 52) (fa 53) (fa 64) (fun r o0 o1 o2 o3 o4 o5 o6 o7 => 
      wp_X12_rings N x1 x2 (wi 0) (ga 0) (ga 1) (ga 2) (ga 17) (fun r' p0 p1 => r = r' ∧ Inv (va_up (va_up vi 29 o0) 30 o1) (va_up (va_up (va_up (va_up (va_up (va_up fa 49 o2) 50 o3) 51 o4) 52 o5) 53 o6) 64 o7) wi (va_up (va_up ga 0 p0) 17 p1)))) ∧
    (¬ vp_in x2 5 → wp_X11_rings N x1 x2 (vi 2) (fa 1) (fa 2) (vi 16) (vi 17) (vi 18) (fa 29) (fa 30) (fa 31) (fa 32) (fa 33) (fa 64) (fun r o0 o1 o2 o3 o4 o5 o6 o7 => 
      wp_X12_rings N x1 x2 (wi 0) (ga 0) (ga 1) (ga 2) (ga 17) (fun r' p0 p1 => r = r' ∧ Inv (va_up (va_up vi 17 o0) 18 o1) (va_up (va_up (va_up (va_up (va_up (va_up fa 29 o2) 30 o3) 31 o4) 32 o5) 33 o6) 64 o7) wi (va_up (va_up ga 0 p0) 17 p1))))
/-- X11_sayable -/
def zop16 (N : Nat) (Inv : (Nat → Int32) → (Nat → Nat → Int32) → (Nat → Int32) → (Nat → Nat → Int32) → Prop) : Prop := ∀ (vi : Nat → Int32) (fa : Nat → Nat → Int32) (wi : Nat → Int32) (ga : Nat → Nat → Int32) (x1 : Int32), Inv vi fa wi ga →
    (x1 = 0 → wp_X11_sayable N x1 (vi 2) (fa 1) (fa 2) (vi 16) (vi 17) (vi 18) (fa 29) (fa 30) (fa 31) (fa 32) (fa 33) (fa 64) (fun r o0 o1 o2 o3 o4 o5 o6 o7 => 
      wp_X12_sayable N x1 (wi 0) (ga 0) (ga 1) (ga 2) (ga 17) (fun r' p0 p1 => r = r' ∧ Inv (va_up (va_up vi 17 o0) 18 o1) (va_up (va_up (va_up (va_up (va_up (va_up fa 29 o2) 30 o3) 31 o4) 32 o5) 33 o6) 64 o7) wi (va_up (va_up ga 0 p0) 17 p1)))) ∧
    (x1 = 1 → wp_X11_sayable N x1 (vi 2) (fa 1) (fa 2) (vi 19) (vi 20) (vi 21) (fa 34) (fa 35) (fa 36) (fa 37) (fa 38) (fa 64) (fun r o0 o1 o2 o3 o4 o5 o6 o7 => 
      wp_X12_sayable N x1 (wi 0) (ga 0) (ga 1) (ga 2) (ga 17) (fun r' p0 p1 => r = r' ∧ Inv (va_up (va_up vi 20 o0) 21 o1) (va_up (va_up (va_up (va_up (va_up (va_up fa 34 o2) 35 o3) 36 o4) 37 o5) 38 o6) 64 o7) wi (va_up (va_up ga 0 p0) 17 p1)))) ∧
    (x1 = 2 → wp_X11_sayable N x1 (vi 2) (fa 1) (fa 2) (vi 22) (vi 23) (vi 24) (fa 39) (fa 40) (fa 41) (fa 42) (fa 43) (fa 64) (fun r o0 o1 o2 o3 o4 o5 o6 o7 => 
      wp_X12_sayable N x1 (wi 0) (ga 0) (ga 1) (ga 2) (ga 17) (fun r' p0 p1 => r = r' ∧ Inv (va_up (va_up vi 23 o0) 24 o1) (va_up (va_up (va_up (va_up (va_up (va_up fa 39 o2) 40 o3) 41 o4) 42 o5) 43 o6) 64 o7) wi (va_up (va_up ga 0 p0) 17 p1)))) ∧
    (x1 = 3 → wp_X11_sayable N x1 (vi 2) (fa 1) (fa 2) (vi 25) (vi 26) (vi 27) (fa 44) (fa 45) (fa 46) (fa 47) (fa 48) (fa 64) (fun r o0 o1 o2 o3 o4 o5 o6 o7 => 
      wp_X12_sayable N x1 (wi 0) (ga 0) (ga 1) (ga 2) (ga 17) (fun r' p0 p1 => r = r' ∧ Inv (va_up (va_up vi 26 o0) 27 o1) (va_up (va_up (va_up (va_up (va_up (va_up fa 44 o2) 45 o3) 46 o4) 47 o5) 48 o6) 64 o7) wi (va_up (va_up ga 0 p0) 17 p1)))) ∧
    (x1 = 4 → wp_X11_sayable N x1 (vi 2) (fa 1) (fa 2) (vi 28) (vi 29) (vi 30) (fa 49) (fa 50) (fa 51) (fa 52) (fa 53) (fa 64) (fun r o0 o1 o2 o3 o4 o5 o6 o7 => 
      wp_X12_sayable N x1 (wi 0) (ga 0) (ga 1) (ga 2) (ga 17) (fun r' p0 p1 => r = r' ∧ Inv (va_up (va_up vi 29 o0) 30 o1) (va_up (va_up (va_up (va_up (va_up (va_up fa 49 o2) 50 o3) 51 o4) 52 o5) 53 o6) 64 o7) wi (va_up (va_up ga 0 p0) 17 p1)))) ∧
    (¬ vp_in x1 5 → wp_X11_sayable N x1 (vi 2) (fa 1) (fa 2) (vi 16) (vi 17) (vi 18) (fa 29) (fa 30) (fa 31) (fa 32) (fa 33) (fa 64) (fun r o0 o1 o2 o3 o4 o5 o6 o7 => 
      wp_X12_sayable N x1 (wi 0) (ga 0) (ga 1) (ga 2) (ga 17) (fun r' p0 p1 => r = r' ∧ Inv (va_up (va_up vi 17 o0) 18 o1) (va_up (va_up (va_up (va_up (va_up (va_up fa 29 o2) 30 o3) 31 o4) 32 o5) 33 o6) 64 o7) wi (va_up (va_up ga 0 p0) 17 p1))))
/-- X11_needed -/
def zop17 (N : Nat) (Inv : (Nat → Int32) → (Nat → Nat → Int32) → (Nat → Int32) → (Nat → Nat → Int32) → Prop) : Prop := ∀ (vi : Nat → Int32) (fa : Nat → Nat → Int32) (wi : Nat → Int32) (ga : Nat → Nat → Int32), Inv vi fa wi ga →
    wp_X11_needed N (vi 2) (fa 1) (fa 2) (vi 16) (vi 17) (vi 18) (fa 29) (fa 30) (fa 31) (fa 32) (fa 33) (fun r o0 o1 o2 o3 o4 o5 o6 => 
      wp_X12_needed N (wi 0) (ga 1) (ga 2) (ga 17) (fun r' p0 => r = r' ∧ Inv (va_up (va_up vi 17 o0) 18 o1) (va_up (va_up (va_up (va_up (va_up fa 29 o2) 30 o3) 31 o4) 32 o5) 33 o6) wi (va_up ga 17 p0)))
/-- X11_worn -/
def zop18 (N : Nat) (Inv : (Nat → Int32) → (Nat → Nat → Int32) → (Nat → Int32) → (Nat → Nat → Int32) → Prop) : Prop := ∀ (vi : Nat → Int32) (fa : Nat → Nat → Int32) (wi : Nat → Int32) (ga : Nat → Nat → Int32) (x1 : Int32), Inv vi fa wi ga →
    wp_X11_worn N x1 (vi 2) (vi 3) (fa 1) (fa 2) (fa 3) (fa 5) (fa 6) (fa 7) (vi 4) (fa 8) (vi 33) (vi 34) (vi 35) (vi 36) (fa 55) (fa 56) (fa 57) (fa 58) (fa 59) (fa 64) (fun r o0 o1 o2 o3 o4 o5 o6 o7 o8 o9 => 
      wp_X12_worn N x1 (wi 0) (wi 1) (wi 2) (wi 11) (wi 12) (ga 0) (ga 1) (ga 2) (ga 3) (ga 5) (ga 6) (ga 7) (ga 8) (ga 17) (ga 18) (ga 19) (ga 20) (fun r' p0 p1 p2 p3 p4 p5 p6 => r = r' ∧ Inv (va_up (va_up (va_up (va_up vi 33 o0) 34 o1) 35 o2) 36 o3) (va_up (va_up (va_up (va_up (va_up (va_up fa 55 o4) 56 o5) 57 o6) 58 o7) 59 o8) 64 o9) (va_up (va_up wi 11 p0) 12 p1) (va_up (va_up (va_up (va_up (va_up ga 0 p2) 17 p3) 18 p4) 19 p5) 20 p6)))
/-- X11_likeliest -/
def zop19 (N : Nat) (Inv : (Nat → Int32) → (Nat → Nat → Int32) → (Nat → Int32) → (Nat → Nat → Int32) → Prop) : Prop := ∀ (vi : Nat → Int32) (fa : Nat → Nat → Int32) (wi : Nat → Int32) (ga : Nat → Nat → Int32) (x1 : Int32), Inv vi fa wi ga →
    wp_X11_likeliest N x1 (vi 2) (vi 3) (fa 1) (fa 2) (fa 3) (fa 5) (fa 6) (fa 7) (vi 4) (fa 8) (vi 33) (vi 34) (vi 35) (vi 36) (fa 55) (fa 56) (fa 57) (fa 58) (fa 59) (fa 64) (fun r o0 o1 o2 o3 o4 o5 o6 o7 o8 o9 => 
      wp_X12_likeliest N x1 (wi 0) (wi 1) (wi 2) (wi 11) (wi 12) (ga 0) (ga 1) (ga 2) (ga 3) (ga 5) (ga 6) (ga 7) (ga 8) (ga 17) (ga 18) (ga 19) (ga 20) (fun r' p0 p1 p2 p3 p4 p5 p6 => r = r' ∧ Inv (va_up (va_up (va_up (va_up vi 33 o0) 34 o1) 35 o2) 36 o3) (va_up (va_up (va_up (va_up (va_up (va_up fa 55 o4) 56 o5) 57 o6) 58 o7) 59 o8) 64 o9) (va_up (va_up wi 11 p0) 12 p1) (va_up (va_up (va_up (va_up (va_up ga 0 p2) 17 p3) 18 p4) 19 p5) 20 p6)))
/-- X11_sure -/
def zop20 (N : Nat) (Inv : (Nat → Int32) → (Nat → Nat → Int32) → (Nat → Int32) → (Nat → Nat → Int32) → Prop) : Prop := ∀ (vi : Nat → Int32) (fa : Nat → Nat → Int32) (wi : Nat → Int32) (ga : Nat → Nat → Int32) (x1 : Int32), Inv vi fa wi ga →
    wp_X11_sure N x1 (vi 2) (vi 3) (fa 1) (fa 2) (fa 3) (fa 5) (fa 6) (fa 7) (vi 4) (fa 8) (vi 33) (vi 34) (vi 35) (vi 36) (fa 55) (fa 56) (fa 57) (fa 58) (fa 59) (fa 64) (fun r o0 o1 o2 o3 o4 o5 o6 o7 o8 o9 => 
      wp_X12_sure N x1 (wi 0) (wi 1) (wi 2) (wi 11) (wi 12) (ga 0) (ga 1) (ga 2) (ga 3) (ga 5) (ga 6) (ga 7) (ga 8) (ga 17) (ga 18) (ga 19) (ga 20) (fun r' p0 p1 p2 p3 p4 p5 p6 => r = r' ∧ Inv (va_up (va_up (va_up (va_up vi 33 o0) 34 o1) 35 o2) 36 o3) (va_up (va_up (va_up (va_up (va_up (va_up fa 55 o4) 56 o5) 57 o6) 58 o7) 59 o8) 64 o9) (va_up (va_up wi 11 p0) 12 p1) (va_up (va_up (va_up (va_up (va_up ga 0 p2) 17 p3) 18 p4) 19 p5) 20 p6)))
/-- X11_safe -/
def zop21 (N : Nat) (Inv : (Nat → Int32) → (Nat → Nat → Int32) → (Nat → Int32) → (Nat → Nat → Int32) → Prop) : Prop := ∀ (vi : Nat → Int32) (fa : Nat → Nat → Int32) (wi : Nat → Int32) (ga : Nat → Nat → Int32) (x1 : Int32), Inv vi fa wi ga →
    wp_X11_safe N x1 (vi 2) (vi 3) (fa 1) (fa 2) (fa 5) (fa 6) (vi 4) (fa 8) (fa 62) (fa 64) (fun r o0 o1 => 
      wp_X12_safe N x1 (wi 0) (wi 1) (wi 2) (ga 0) (ga 1) (ga 2) (ga 5) (ga 6) (ga 8) (ga 16) (fun r' p0 p1 => r = r' ∧ Inv vi (va_up (va_up fa 62 o0) 64 o1) wi (va_up (va_up ga 0 p0) 16 p1)))
/-- X11_pair -/
def zop22 (N : Nat) (Inv : (Nat → Int32) → (Nat → Nat → Int32) → (Nat → Int32) → (Nat → Nat → Int32) → Prop) : Prop := ∀ (vi : Nat → Int32) (fa : Nat → Nat → Int32) (wi : Nat → Int32) (ga : Nat → Nat → Int32) (x1 : Int32) (x2 : Int32), Inv vi fa wi ga →
    wp_X11_pair N x1 x2 (vi 2) (vi 5) (fa 9) (fa 10) (fa 64) (fun r o0 o1 o2 o3 => 
      wp_X12_pair N x1 x2 (wi 0) (wi 3) (ga 0) (ga 9) (ga 10) (fun r' p0 p1 p2 p3 => r = r' ∧ Inv (va_up vi 5 o0) (va_up (va_up (va_up fa 9 o1) 10 o2) 64 o3) (va_up wi 3 p0) (va_up (va_up (va_up ga 0 p1) 9 p2) 10 p3)))
/-- X11_every -/
def zop23 (N : Nat) (Inv : (Nat → Int32) → (Nat → Nat → Int32) → (Nat → Int32) → (Nat → Nat → Int32) → Prop) : Prop := ∀ (vi : Nat → Int32) (fa : Nat → Nat → Int32) (wi : Nat → Int32) (ga : Nat → Nat → Int32) (x1 : Int32), Inv vi fa wi ga →
    wp_X11_every N x1 (vi 5) (fa 9) (fa 10) (fa 60) (fa 61) (fa 64) (fun r o0 o1 o2 => 
      wp_X12_every N x1 (wi 0) (wi 3) (ga 0) (ga 9) (ga 10) (ga 21) (fun r' p0 p1 => r = r' ∧ Inv vi (va_up (va_up (va_up fa 60 o0) 61 o1) 64 o2) wi (va_up (va_up ga 0 p0) 21 p1)))
/-- X11_stones -/
def zop24 (N : Nat) (Inv : (Nat → Int32) → (Nat → Nat → Int32) → (Nat → Int32) → (Nat → Nat → Int32) → Prop) : Prop := ∀ (vi : Nat → Int32) (fa : Nat → Nat → Int32) (wi : Nat → Int32) (ga : Nat → Nat → Int32), Inv vi fa wi ga →
    wp_X11_stones N (vi 2) (fa 4) (vi 4) (fa 8) (fa 63) (fun r o0 => 
      wp_X12_stones N (wi 0) (wi 2) (ga 4) (ga 8) (fun r' => r = r' ∧ Inv vi (va_up fa 63 o0) wi ga))
/-- X11_made -/
def zop25 (N : Nat) (Inv : (Nat → Int32) → (Nat → Nat → Int32) → (Nat → Int32) → (Nat → Nat → Int32) → Prop) : Prop := ∀ (vi : Nat → Int32) (fa : Nat → Nat → Int32) (wi : Nat → Int32) (ga : Nat → Nat → Int32) (x1 : Int32), Inv vi fa wi ga →
    wp_X11_made N x1 (vi 2) (fa 4) (fa 62) (fa 63) (fa 64) (fun r o0 o1 o2 => 
      wp_X12_made N x1 (wi 0) (ga 0) (ga 4) (ga 17) (fun r' p0 p1 => r = r' ∧ Inv vi (va_up (va_up (va_up fa 62 o0) 63 o1) 64 o2) wi (va_up (va_up ga 0 p0) 17 p1)))
/-- X11_towers -/
def zop26 (N : Nat) (Inv : (Nat → Int32) → (Nat → Nat → Int32) → (Nat → Int32) → (Nat → Nat → Int32) → Prop) : Prop := ∀ (vi : Nat → Int32) (fa : Nat → Nat → Int32) (wi : Nat → Int32) (ga : Nat → Nat → Int32) (x1 : Int32) (x2 : Int32) (x3 : Int32), Inv vi fa wi ga →
    wp_X11_towers N x1 x2 x3 (vi 2) (fa 1) (fa 2) (fa 62) (fa 64) (fun r o0 o1 => 
      wp_X12_towers N x1 x2 x3 (wi 0) (ga 0) (ga 1) (ga 2) (ga 17) (fun r' p0 p1 => r = r' ∧ Inv vi (va_up (va_up fa 62 o0) 64 o1) wi (va_up (va_up ga 0 p0) 17 p1)))
/-- X11_image -/
def zop27 (N : Nat) (Inv : (Nat → Int32) → (Nat → Nat → Int32) → (Nat → Int32) → (Nat → Nat → Int32) → Prop) : Prop := ∀ (vi : Nat → Int32) (fa : Nat → Nat → Int32) (wi : Nat → Int32) (ga : Nat → Nat → Int32), Inv vi fa wi ga →
    wp_X11_image N (vi 0) (vi 2) (vi 3) (fa 1) (fa 2) (fa 3) (fa 4) (fa 5) (fa 6) (fa 7) (vi 4) (fa 8) (vi 5) (fa 9) (fa 10) (vi 6) (vi 7) (fa 11) (fa 12) (fa 13) (fa 14) (fa 15) (fa 16) (fa 17) (vi 8) (fa 18) (vi 9) (fa 19) (fa 20) (fun r o0 o1 o2 o3 o4 o5 o6 o7 o8 o9 o10 o11 o12 o13 o14 => 
      wp_X12_image N (wi 0) (wi 1) (wi 2) (wi 3) (wi 4) (wi 5) (wi 6) (ga 1) (ga 2) (ga 3) (ga 4) (ga 5) (ga 6) (ga 7) (ga 8) (ga 9) (ga 10) (ga 11) (fun r' p0 p1 p2 p3 p4 p5 p6 p7 p8 p9 p10 p11 p12 p13 p14 p15 p16 p17 => r = r' ∧ Inv (va_up (va_up (va_up (va_up (va_up vi 0 o0) 6 o1) 7 o2) 8 o10) 9 o12) (va_up (va_up (va_up (va_up (va_up (va_up (va_up (va_up (va_up (va_up fa 11 o3) 12 o4) 13 o5) 14 o6) 15 o7) 16 o8) 17 o9) 18 o11) 19 o13) 20 o14) (va_up (va_up (va_up (va_up (va_up (va_up (va_up wi 0 p0) 1 p1) 2 p2) 3 p3) 4 p4) 5 p5) 6 p6) (va_up (va_up (va_up (va_up (va_up (va_up (va_up (va_up (va_up (va_up (va_up ga 1 p7) 2 p8) 3 p9) 4 p10) 5 p11) 6 p12) 7 p13) 8 p14) 9 p15) 10 p16) 11 p17)))
/-- X11_on -/
def zop28 (N : Nat) (Inv : (Nat → Int32) → (Nat → Nat → Int32) → (Nat → Int32) → (Nat → Nat → Int32) → Prop) : Prop := ∀ (vi : Nat → Int32) (fa : Nat → Nat → Int32) (wi : Nat → Int32) (ga : Nat → Nat → Int32), Inv vi fa wi ga →
    wp_X11_on N (vi 0) (vi 2) (vi 3) (fa 1) (fa 2) (fa 3) (fa 4) (fa 5) (fa 6) (fa 7) (vi 4) (fa 8) (vi 5) (fa 9) (fa 10) (vi 6) (vi 7) (fa 11) (fa 12) (fa 13) (fa 14) (fa 15) (fa 16) (fa 17) (vi 8) (fa 18) (vi 9) (fa 19) (fa 20) (vi 17) (vi 20) (vi 23) (vi 26) (vi 29) (vi 31) (vi 33) (fa 64) (fun r o0 o1 o2 o3 o4 o5 o6 o7 o8 o9 o10 o11 o12 o13 o14 o15 o16 o17 o18 o19 o20 o21 => 
      wp_X12_on N (wi 0) (wi 1) (wi 2) (wi 3) (wi 4) (wi 5) (wi 6) (ga 0) (ga 1) (ga 2) (ga 3) (ga 4) (ga 5) (ga 6) (ga 7) (ga 8) (ga 9) (ga 10) (ga 11) (fun r' p0 p1 p2 p3 p4 p5 p6 p7 p8 p9 p10 p11 p12 p13 p14 p15 p16 p17 => r = r' ∧ Inv (va_up (va_up (va_up (va_up (va_up (va_up (va_up (va_up (va_up (va_up (va_up vi 2 o0) 3 o1) 4 o9) 5 o11) 17 o14) 20 o15) 23 o16) 26 o17) 29 o18) 31 o19) 33 o20) (va_up (va_up (va_up (va_up (va_up (va_up (va_up (va_up (va_up (va_up (va_up fa 1 o2) 2 o3) 3 o4) 4 o5) 5 o6) 6 o7) 7 o8) 8 o10) 9 o12) 10 o13) 64 o21) (va_up (va_up (va_up (va_up (va_up (va_up wi 0 p0) 1 p1) 2 p2) 3 p3) 5 p4) 6 p5) (va_up (va_up (va_up (va_up (va_up (va_up (va_up (va_up (va_up (va_up (va_up (va_up ga 0 p6) 1 p7) 2 p8) 3 p9) 4 p10) 5 p11) 6 p12) 7 p13) 8 p14) 9 p15) 10 p16) 11 p17)))
/-- X11_count -/
def zop29 (N : Nat) (Inv : (Nat → Int32) → (Nat → Nat → Int32) → (Nat → Int32) → (Nat → Nat → Int32) → Prop) : Prop := ∀ (vi : Nat → Int32) (fa : Nat → Nat → Int32) (wi : Nat → Int32) (ga : Nat → Nat → Int32) (x1 : Int32), Inv vi fa wi ga →
    wp_X11_count N x1 (vi 1) (vi 2) (vi 3) (fa 4) (vi 4) (fa 8) (vi 5) (fa 64) (fun r => 
      wp_X12_count N x1 (wi 0) (wi 1) (wi 2) (wi 3) (wi 7) (ga 0) (ga 4) (ga 8) (fun r' => r = r' ∧ Inv vi fa wi ga))
