set_option maxRecDepth 100000 in
theorem eC_addLine (d : Nat) (a1 : Int32) (a2 : Int32) (a3 : Int32) (S : ZS) : zC_addLine (d + 1) a1 a2 a3 S =
  (zP_isRackOf d (0 : Int32) a1 S).bind (fun r1 =>
  zif (r1.1 = 0) (
    some ((-1 : Int32), r1.2)) (
    (zP_isRackOf d (1 : Int32) a2 r1.2).bind (fun r2 =>
    zif (r2.1 = 0) (
      some ((-1 : Int32), r2.2)) (
      zif ((r2.2.1 0 0 3) = (40 : Int32)) (
        some ((-1 : Int32), r2.2)) (
        zif (a3 < 0) (
          some ((-1 : Int32), r2.2)) (
          zif ((100 : Int32) ≤ a3) (
            some ((-1 : Int32), r2.2)) (
            zg (zin ((a2 * (100 : Int32)) + a3) 1200) (
            zif ((r2.2.1 21 0 (zx ((a2 * (100 : Int32)) + a3))) = (-1 : Int32)) (
              (fun S3 : ZS =>
              zg (zin (r2.2.1 0 0 3) 40) (
              zg (zin ((a2 * (100 : Int32)) + a3) 1200) (
              some ((((zu (zu S3.1 21 0 (zx ((a2 * (100 : Int32)) + a3)) (S3.1 0 0 3)) 0 0 3 (((zu S3.1 21 0 (zx ((a2 * (100 : Int32)) + a3)) (S3.1 0 0 3)) 0 0 3) + (1 : Int32))) 0 0 3) - (1 : Int32)), ((zu (zu S3.1 21 0 (zx ((a2 * (100 : Int32)) + a3)) (S3.1 0 0 3)) 0 0 3 (((zu S3.1 21 0 (zx ((a2 * (100 : Int32)) + a3)) (S3.1 0 0 3)) 0 0 3) + (1 : Int32))), S3.2.1, (zu S3.2.2.1 20 0 (zx (r2.2.1 0 0 3)) (some (2, r2.2.2.2.2.1))), S3.2.2.2))))) (zline r2.2.1 r2.2.2.2.2.1 (r2.2.1 0 0 3) a1, r2.2.2.1, r2.2.2.2.1, r2.2.2.2.2.1 + 1, r2.2.2.2.2.2.1 + 3, r2.2.2.2.2.2.2 + 114)) (
              some ((-1 : Int32), r2.2)))))))))) := zeqi d 0 0 0 [some (zr 0 0), some (zi a1), some (zi a2), some (zi a3)] [] S
set_option maxRecDepth 100000 in
theorem eC_isLine (d : Nat) (a1 : Int32) (S : ZS) : zC_isLine (d + 1) a1 S =
  zif (a1 < 0) (
    some ((0 : Int32), S)) (
    zif ((S.1 0 0 3) ≤ a1) (
      some ((0 : Int32), S)) (
      some ((1 : Int32), S))) := zeqi d 1 0 0 [some (zr 0 0), some (zi a1)] [] S
set_option maxRecDepth 100000 in
theorem eC_isQuiet (d : Nat) (a1 : Int32) (S : ZS) : zC_isQuiet (d + 1) a1 S =
  zif (a1 < 0) (
    some ((0 : Int32), S)) (
    zif ((S.1 0 0 3) ≤ a1) (
      some ((0 : Int32), S)) (
      zg (zin a1 40) (
      zder (S.2.2.1 20 0 (zx a1)) 2 (fun i1 =>
      zif ((S.1 2 i1 2) = 0) (
        some ((1 : Int32), S)) (
        some ((0 : Int32), S)))))) := zeqi d 2 0 0 [some (zr 0 0), some (zi a1)] [] S
set_option maxRecDepth 100000 in
theorem eC_isCalling (d : Nat) (a1 : Int32) (S : ZS) : zC_isCalling (d + 1) a1 S =
  zif (a1 < 0) (
    some ((0 : Int32), S)) (
    zif ((S.1 0 0 3) ≤ a1) (
      some ((0 : Int32), S)) (
      zg (zin a1 40) (
      zder (S.2.2.1 20 0 (zx a1)) 2 (fun i1 =>
      zif ((S.1 2 i1 2) = (1 : Int32)) (
        some ((1 : Int32), S)) (
        some ((0 : Int32), S)))))) := zeqi d 3 0 0 [some (zr 0 0), some (zi a1)] [] S
set_option maxRecDepth 100000 in
theorem eC_callingLines (d : Nat)  (S : ZS) : zC_callingLines (d + 1)  S =
  zC_callingLines_4 d (0 : Int32) (0 : Int32) S := zeqi d 4 0 0 [some (zr 0 0), none, none] [] S
set_option maxRecDepth 100000 in
theorem eC_callingLines_4 (d : Nat) (a1 : Int32) (a2 : Int32) (S : ZS) : zC_callingLines_4 d a1 a2 S =
  zif ((S.1 0 0 3) ≤ a2) (
    some (a1, S)) (
    (zC_isCalling d a2 S).bind (fun r1 =>
    zif (r1.1 = 0) (
      zC_callingLines_4 d (a1 + (0 : Int32)) (a2 + (1 : Int32)) r1.2) (
      zC_callingLines_4 d (a1 + (1 : Int32)) (a2 + (1 : Int32)) r1.2))) := zeqi d 4 0 4 [some (zr 0 0), some (zi a1), some (zi a2)] [] S
set_option maxRecDepth 100000 in
theorem eC_lineAt (d : Nat) (a1 : Int32) (a2 : Int32) (S : ZS) : zC_lineAt (d + 1) a1 a2 S =
  zif (a1 < 0) (
    zC_lineAt_25 d a1 a2 (0 : Int32) S) (
    zif ((96 : Int32) ≤ a1) (
      zC_lineAt_25 d a1 a2 (0 : Int32) S) (
      zif (a2 < 0) (
        zC_lineAt_25 d a1 a2 (0 : Int32) S) (
        zif ((100 : Int32) ≤ a2) (
          zC_lineAt_25 d a1 a2 (0 : Int32) S) (
          zC_lineAt_25 d a1 a2 (1 : Int32) S)))) := zeqi d 5 0 0 [some (zr 0 0), some (zi a1), some (zi a2), none] [] S
set_option maxRecDepth 100000 in
theorem eC_lineAt_25 (d : Nat) (a1 : Int32) (a2 : Int32) (s0 : Int32) (S : ZS) : zC_lineAt_25 d a1 a2 s0 S =
  zif (s0 = 0) (
    some ((-1 : Int32), S)) (
    zg (zin (((a1 / (8 : Int32)) * (100 : Int32)) + a2) 1200) (
    some ((S.1 21 0 (zx (((a1 / (8 : Int32)) * (100 : Int32)) + a2))), S))) := zeqi d 5 0 25 [some (zr 0 0), some (zi a1), some (zi a2), none] [zi s0] S
set_option maxRecDepth 100000 in
theorem eC_take (d : Nat) (o1 : Nat) (S : ZS) : zC_take (d + 1) o1 S =
  zC_take_10 d o1 ((S.1 2 o1 1) * (8 : Int32)) ((S.1 2 o1 1) * (8 : Int32)) S := zeqi d 6 0 0 [some (zr 0 0), some (zr 2 o1), none, none] [] S
set_option maxRecDepth 100000 in
theorem eC_take_10 (d : Nat) (a1 : Nat) (a2 : Int32) (a3 : Int32) (S : ZS) : zC_take_10 d a1 a2 a3 S =
  zg (zin (S.1 2 a1 1) 12) (
  zif ((a2 + (S.1 34 0 (zx (S.1 2 a1 1)))) ≤ a3) (
    some ((7 : Int32), S)) (
    (zP_canTake d a3 S).bind (fun r1 =>
    zif (r1.1 = 0) (
      zC_take_10 d a1 a2 (a3 + (1 : Int32)) r1.2) (
      (zC_hold d a1 a3 (0 : Int32) ((zu r1.2.1 2 a1 2 (1 : Int32)), r1.2.2)).bind (fun r2 =>
      some ((r2.1 2 a1 3), r2)))))) := zeqi d 6 0 10 [some (zr 0 0), some (zr 2 a1), some (zi a2), some (zi a3)] [] S
set_option maxRecDepth 100000 in
theorem eC_step (d : Nat) (o1 : Nat) (a2 : Int32) (S : ZS) : zC_step (d + 1) o1 a2 S =
  zif ((S.1 2 o1 3) = 0) (
    zC_step_20 d o1 a2 S) (
    zif ((S.1 2 o1 3) = (1 : Int32)) (
      zC_step_20 d o1 a2 S) (
      some ((S.1 2 o1 3), S))) := zeqi d 7 0 0 [some (zr 0 0), some (zr 2 o1), some (zi a2), none] [] S
set_option maxRecDepth 100000 in
theorem eC_step_20 (d : Nat) (a1 : Nat) (a2 : Int32) (S : ZS) : zC_step_20 d a1 a2 S =
  (zL_noteDigit d a1 a2 S).bind (fun r1 =>
  (zL_head d a1 r1).bind (fun r2 =>
  (zP_isJunction d r2.1 r2.2).bind (fun r3 =>
  zif (r3.1 = 0) (
    (zP_isFinal d r2.1 r3.2).bind (fun r4 =>
    zif (r4.1 = 0) (
      (zC_hunt d a1 r2.1 a2 r4.2).bind (fun r5 =>
      some ((r5.1 2 a1 3), r5))) (
      (zC_stepFinal d a1 r2.1 r4.2).bind (fun r6 =>
      some ((r6.1 2 a1 3), r6))))) (
    zif ((3 : Int32) ≤ (r3.2.1 2 a1 8)) (
      some (((zu r3.2.1 2 a1 3 (5 : Int32)) 2 a1 3), ((zu r3.2.1 2 a1 3 (5 : Int32)), r3.2.2))) (
      some (((zu r3.2.1 2 a1 3 (1 : Int32)) 2 a1 3), ((zu r3.2.1 2 a1 3 (1 : Int32)), r3.2.2))))))) := zeqi d 7 0 20 [some (zr 0 0), some (zr 2 a1), some (zi a2), none] [] S
set_option maxRecDepth 100000 in
theorem eC_stepFinal (d : Nat) (o1 : Nat) (a2 : Int32) (S : ZS) : zC_stepFinal (d + 1) o1 a2 S =
  zif ((2 : Int32) ≤ (S.1 2 o1 8)) (
    (zC_lineAt d a2 (S.1 2 o1 9) S).bind (fun r1 =>
    (zC_isQuiet d r1.1 r1.2).bind (fun r2 =>
    zif (r2.1 = 0) (
      zif (r1.1 = (-1 : Int32)) (
        some ((zu r2.2.1 2 o1 3 (4 : Int32)), r2.2.2)) (
        some ((zu r2.2.1 2 o1 3 (3 : Int32)), r2.2.2))) (
      zg (zin r1.1 40) (
      zder (r2.2.2.2.1 20 0 (zx r1.1)) 2 (fun i3 =>
      some ((zu (zu (zu r2.2.1 2 o1 3 (5 : Int32)) 2 o1 10 r1.1) 2 i3 2 (2 : Int32)), r2.2.2))))))) (
    some ((zu S.1 2 o1 3 (1 : Int32)), S.2)) := zeqv d 8 0 0 [some (zr 0 0), some (zr 2 o1), some (zi a2), none] [] S
set_option maxRecDepth 100000 in
theorem eC_hunt (d : Nat) (o1 : Nat) (a2 : Int32) (a3 : Int32) (S : ZS) : zC_hunt (d + 1) o1 a2 a3 S =
  zC_hunt_6 d o1 a2 a3 (0 : Int32) (0 : Int32) S := zeqv d 9 0 0 [some (zr 0 0), some (zr 2 o1), some (zi a2), some (zi a3), none, none, none] [] S
set_option maxRecDepth 100000 in
theorem eC_hunt_6 (d : Nat) (a1 : Nat) (a2 : Int32) (a3 : Int32) (a4 : Int32) (a5 : Int32) (S : ZS) : zC_hunt_6 d a1 a2 a3 a4 a5 S =
  zif ((4 : Int32) ≤ a5) (
    zif (a4 = 0) (
      some ((zu S.1 2 a1 3 (4 : Int32)), S.2)) (
      some ((zu S.1 2 a1 3 (3 : Int32)), S.2))) (
    (zP_leadsFrom d a2 a3 a5 S).bind (fun r1 =>
    (zP_canTake d r1.1 r1.2).bind (fun r2 =>
    zif (r2.1 = 0) (
      zif (a4 = 0) (
        zif (r1.1 = (-1 : Int32)) (
          zC_hunt_6 d a1 a2 a3 (0 : Int32) (a5 + (1 : Int32)) r2.2) (
          zC_hunt_6 d a1 a2 a3 (1 : Int32) (a5 + (1 : Int32)) r2.2)) (
        zC_hunt_6 d a1 a2 a3 (1 : Int32) (a5 + (1 : Int32)) r2.2)) (
      (zC_hold d a1 r1.1 (1 : Int32) r2.2).bind (fun r3 =>
      some r3))))) := zeqv d 9 0 6 [some (zr 0 0), some (zr 2 a1), some (zi a2), some (zi a3), some (zi a4), some (zi a5), none] [] S
set_option maxRecDepth 100000 in
theorem eC_hold (d : Nat) (o1 : Nat) (a2 : Int32) (a3 : Int32) (S : ZS) : zC_hold (d + 1) o1 a2 a3 S =
  zg (zin a2 116) (
  (zL_addHeld d o1 a2 ((zu S.1 39 0 (zx a2) (S.1 2 o1 0)), S.2)).bind (fun r1 =>
  (zP_isFaulty d a2 r1).bind (fun r2 =>
  zif (r2.1 = 0) (
    some ((zu r2.2.1 2 o1 3 a3), r2.2.2)) (
    some ((zu r2.2.1 2 o1 3 (2 : Int32)), r2.2.2))))) := zeqv d 10 0 0 [some (zr 0 0), some (zr 2 o1), some (zi a2), some (zi a3)] [] S
set_option maxRecDepth 100000 in
theorem eC_make (d : Nat) (o1 : Nat) (a2 : Int32) (a3 : Int32) (S : ZS) : zC_make (d + 1) o1 a2 a3 S =
  (zC_take d o1 S).bind (fun r1 =>
  zC_make_10 d o1 a2 a3 r1.1 (0 : Int32) r1.2) := zeqi d 11 0 0 [some (zr 0 0), some (zr 2 o1), some (zi a2), some (zi a3), none, none] [] S
set_option maxRecDepth 100000 in
theorem eC_make_10 (d : Nat) (a1 : Nat) (a2 : Int32) (a3 : Int32) (a4 : Int32) (a5 : Int32) (S : ZS) : zC_make_10 d a1 a2 a3 a4 a5 S =
  zif (a3 ≤ a5) (
    some (a4, S)) (
    zif (a4 = (7 : Int32)) (
      some (a4, S)) (
      (zX_digitAt d a2 a3 a5 S).bind (fun r1 =>
      (zC_step d a1 r1.1 r1.2).bind (fun r2 =>
      zC_make_10 d a1 a2 a3 r2.1 (a5 + (1 : Int32)) r2.2)))) := zeqi d 11 0 10 [some (zr 0 0), some (zr 2 a1), some (zi a2), some (zi a3), some (zi a4), some (zi a5)] [] S
set_option maxRecDepth 100000 in
theorem eC_release (d : Nat) (o1 : Nat) (S : ZS) : zC_release (d + 1) o1 S =
  zif ((S.1 2 o1 2) = (1 : Int32)) (
    (zC_setHolder d o1 (-1 : Int32) S).bind (fun r1 =>
    (zC_isLine d (r1.1 2 o1 10) r1).bind (fun r2 =>
    zif (r2.1 = 0) (
      (zL_clear d o1 r2.2).bind (fun r3 =>
      some r3)) (
      zg (zin (r2.2.1 2 o1 10) 40) (
      zder (r2.2.2.2.1 20 0 (zx (r2.2.1 2 o1 10))) 2 (fun i4 =>
      (zL_clear d o1 ((zu r2.2.1 2 i4 2 (0 : Int32)), r2.2.2)).bind (fun r5 =>
      some r5))))))) (
    some S) := zeqv d 12 0 0 [some (zr 0 0), some (zr 2 o1)] [] S
set_option maxRecDepth 100000 in
theorem eC_setHolder (d : Nat) (o1 : Nat) (a2 : Int32) (S : ZS) : zC_setHolder (d + 1) o1 a2 S =
  zC_setHolder_2 d o1 a2 (0 : Int32) S := zeqv d 13 0 0 [some (zr 0 0), some (zr 2 o1), some (zi a2), none] [] S
set_option maxRecDepth 100000 in
theorem eC_setHolder_2 (d : Nat) (a1 : Nat) (a2 : Int32) (a3 : Int32) (S : ZS) : zC_setHolder_2 d a1 a2 a3 S =
  zif ((S.1 2 a1 5) ≤ a3) (
    some S) (
    zg (zin a3 97) (
    zg (zin (S.1 29 a1 (zx a3)) 116) (
    zC_setHolder_2 d a1 a2 (a3 + (1 : Int32)) ((zu S.1 39 0 (zx (S.1 29 a1 (zx a3))) a2), S.2)))) := zeqv d 13 0 2 [some (zr 0 0), some (zr 2 a1), some (zi a2), some (zi a3)] [] S
set_option maxRecDepth 100000 in
theorem eG_write (d : Nat) (a1 : Int32) (a2 : Int32) (a3 : Int32) (a4 : Int32) (S : ZS) : zG_write (d + 1) a1 a2 a3 a4 S =
  zif ((S.1 1 0 0) = (200 : Int32)) (
    some S) (
    zg (zin (S.1 1 0 0) 200) (
    zg (zin ((zu S.1 22 0 (zx (S.1 1 0 0)) a1) 1 0 0) 200) (
    zg (zin ((zu (zu S.1 22 0 (zx (S.1 1 0 0)) a1) 23 0 (zx ((zu S.1 22 0 (zx (S.1 1 0 0)) a1) 1 0 0)) a2) 1 0 0) 200) (
    zg (zin ((zu (zu (zu S.1 22 0 (zx (S.1 1 0 0)) a1) 23 0 (zx ((zu S.1 22 0 (zx (S.1 1 0 0)) a1) 1 0 0)) a2) 24 0 (zx ((zu (zu S.1 22 0 (zx (S.1 1 0 0)) a1) 23 0 (zx ((zu S.1 22 0 (zx (S.1 1 0 0)) a1) 1 0 0)) a2) 1 0 0)) a3) 1 0 0) 200) (
    some ((zu (zu (zu (zu (zu S.1 22 0 (zx (S.1 1 0 0)) a1) 23 0 (zx ((zu S.1 22 0 (zx (S.1 1 0 0)) a1) 1 0 0)) a2) 24 0 (zx ((zu (zu S.1 22 0 (zx (S.1 1 0 0)) a1) 23 0 (zx ((zu S.1 22 0 (zx (S.1 1 0 0)) a1) 1 0 0)) a2) 1 0 0)) a3) 25 0 (zx ((zu (zu (zu S.1 22 0 (zx (S.1 1 0 0)) a1) 23 0 (zx ((zu S.1 22 0 (zx (S.1 1 0 0)) a1) 1 0 0)) a2) 24 0 (zx ((zu (zu S.1 22 0 (zx (S.1 1 0 0)) a1) 23 0 (zx ((zu S.1 22 0 (zx (S.1 1 0 0)) a1) 1 0 0)) a2) 1 0 0)) a3) 1 0 0)) a4) 1 0 0 (((zu (zu (zu (zu S.1 22 0 (zx (S.1 1 0 0)) a1) 23 0 (zx ((zu S.1 22 0 (zx (S.1 1 0 0)) a1) 1 0 0)) a2) 24 0 (zx ((zu (zu S.1 22 0 (zx (S.1 1 0 0)) a1) 23 0 (zx ((zu S.1 22 0 (zx (S.1 1 0 0)) a1) 1 0 0)) a2) 1 0 0)) a3) 25 0 (zx ((zu (zu (zu S.1 22 0 (zx (S.1 1 0 0)) a1) 23 0 (zx ((zu S.1 22 0 (zx (S.1 1 0 0)) a1) 1 0 0)) a2) 24 0 (zx ((zu (zu S.1 22 0 (zx (S.1 1 0 0)) a1) 23 0 (zx ((zu S.1 22 0 (zx (S.1 1 0 0)) a1) 1 0 0)) a2) 1 0 0)) a3) 1 0 0)) a4) 1 0 0) + (1 : Int32))), S.2)))))) := zeqv d 14 1 0 [some (zr 1 0), some (zi a1), some (zi a2), some (zi a3), some (zi a4)] [] S
set_option maxRecDepth 100000 in
theorem eG_tell (d : Nat) (a1 : Int32) (a2 : Int32) (a3 : Int32) (S : ZS) : zG_tell (d + 1) a1 a2 a3 S =
  zif (a1 < 0) (
    some ((0 : Int32), S)) (
    zif ((S.1 1 0 0) ≤ a1) (
      some ((0 : Int32), S)) (
      zif (a2 < 0) (
        some ((0 : Int32), S)) (
        zif ((9999 : Int32) < a2) (
          some ((0 : Int32), S)) (
          zif ((S.1 1 0 5) = (200 : Int32)) (
            some ((0 : Int32), S)) (
            zg (zin (S.1 1 0 5) 200) (
            zg (zin ((zu S.1 26 0 (zx (S.1 1 0 5)) a1) 1 0 5) 200) (
            zg (zin ((zu (zu S.1 26 0 (zx (S.1 1 0 5)) a1) 27 0 (zx ((zu S.1 26 0 (zx (S.1 1 0 5)) a1) 1 0 5)) a2) 1 0 5) 200) (
            some ((1 : Int32), ((zu (zu (zu (zu S.1 26 0 (zx (S.1 1 0 5)) a1) 27 0 (zx ((zu S.1 26 0 (zx (S.1 1 0 5)) a1) 1 0 5)) a2) 28 0 (zx ((zu (zu S.1 26 0 (zx (S.1 1 0 5)) a1) 27 0 (zx ((zu S.1 26 0 (zx (S.1 1 0 5)) a1) 1 0 5)) a2) 1 0 5)) a3) 1 0 5 (((zu (zu (zu S.1 26 0 (zx (S.1 1 0 5)) a1) 27 0 (zx ((zu S.1 26 0 (zx (S.1 1 0 5)) a1) 1 0 5)) a2) 28 0 (zx ((zu (zu S.1 26 0 (zx (S.1 1 0 5)) a1) 27 0 (zx ((zu S.1 26 0 (zx (S.1 1 0 5)) a1) 1 0 5)) a2) 1 0 5)) a3) 1 0 5) + (1 : Int32))), S.2)))))))))) := zeqi d 15 1 0 [some (zr 1 0), some (zi a1), some (zi a2), some (zi a3)] [] S
set_option maxRecDepth 100000 in
theorem eG_sum (d : Nat) (a1 : Int32) (a2 : Int32) (a3 : Int32) (a4 : Int32) (S : ZS) : zG_sum (d + 1) a1 a2 a3 a4 S =
  zG_sum_6 d a1 a2 a3 a4 (0 : Int32) (0 : Int32) S := zeqi d 16 1 0 [some (zr 1 0), some (zi a1), some (zi a2), some (zi a3), some (zi a4), none, none] [] S
set_option maxRecDepth 100000 in
theorem eG_sum_6 (d : Nat) (a1 : Int32) (a2 : Int32) (a3 : Int32) (a4 : Int32) (a5 : Int32) (a6 : Int32) (S : ZS) : zG_sum_6 d a1 a2 a3 a4 a5 a6 S =
  zif ((S.1 1 0 0) ≤ a6) (
    some (a5, S)) (
    zg (zin a6 200) (
    zif ((S.1 22 0 (zx a6)) = a1) (
      zg (zin a6 200) (
      zif ((S.1 24 0 (zx a6)) < a2) (
        zG_sum_6 d a1 a2 a3 a4 a5 (a6 + (1 : Int32)) S) (
        zg (zin a6 200) (
        zif (a3 < (S.1 24 0 (zx a6))) (
          zG_sum_6 d a1 a2 a3 a4 a5 (a6 + (1 : Int32)) S) (
          zg (zin a6 200) (
          zif (a4 < (S.1 25 0 (zx a6))) (
            zG_sum_6 d a1 a2 a3 a4 a5 (a6 + (1 : Int32)) S) (
            (zG_unitsKnown d a6 a4 S).bind (fun r1 =>
            zG_sum_6 d a1 a2 a3 a4 (a5 + r1.1) (a6 + (1 : Int32)) r1.2)))))))) (
      zG_sum_6 d a1 a2 a3 a4 a5 (a6 + (1 : Int32)) S))) := zeqi d 16 1 6 [some (zr 1 0), some (zi a1), some (zi a2), some (zi a3), some (zi a4), some (zi a5), some (zi a6)] [] S
set_option maxRecDepth 100000 in
theorem eG_unitsKnown (d : Nat) (a1 : Int32) (a2 : Int32) (S : ZS) : zG_unitsKnown (d + 1) a1 a2 S =
  zG_unitsKnown_7 d a1 a2 ((S.1 1 0 5) - (1 : Int32)) S := zeqi d 17 1 0 [some (zr 1 0), some (zi a1), some (zi a2), none] [] S
set_option maxRecDepth 100000 in
theorem eG_unitsKnown_7 (d : Nat) (a1 : Int32) (a2 : Int32) (a3 : Int32) (S : ZS) : zG_unitsKnown_7 d a1 a2 a3 S =
  zif (a3 < 0) (
    zg (zin a1 200) (
    some ((S.1 23 0 (zx a1)), S))) (
    zg (zin a3 200) (
    zif ((S.1 26 0 (zx a3)) = a1) (
      zg (zin a3 200) (
      zif (a2 < (S.1 28 0 (zx a3))) (
        zG_unitsKnown_7 d a1 a2 (a3 + (-1 : Int32)) S) (
        zg (zin a3 200) (
        some ((S.1 27 0 (zx a3)), S))))) (
      zG_unitsKnown_7 d a1 a2 (a3 + (-1 : Int32)) S))) := zeqi d 17 1 7 [some (zr 1 0), some (zi a1), some (zi a2), some (zi a3)] [] S
set_option maxRecDepth 100000 in
theorem eG_show (d : Nat) (a1 : Int32) (a2 : Int32) (S : ZS) : zG_show (d + 1) a1 a2 S =
  zif (a1 < 0) (
    some ((-1 : Int32), S)) (
    zif (a1 < (S.1 1 0 0)) (
      zif (a2 = (0 : Int32)) (
        zg (zin a1 200) (
        some ((S.1 22 0 (zx a1)), S))) (
      zif (a2 = (1 : Int32)) (
        (zG_unitsKnown d a1 (11 : Int32) S).bind (fun r1 =>
        some (r1.1, r1.2))) (
      zif (a2 = (2 : Int32)) (
        zg (zin a1 200) (
        some ((S.1 24 0 (zx a1)), S))) (
      zif (a2 = (3 : Int32)) (
        zg (zin a1 200) (
        some ((S.1 25 0 (zx a1)), S))) (
      some ((-1 : Int32), S)))))) (
      some ((-1 : Int32), S))) := zeqi d 18 1 0 [some (zr 1 0), some (zi a1), some (zi a2)] [] S
set_option maxRecDepth 100000 in
theorem eL_head (d : Nat) (o0 : Nat) (S : ZS) : zL_head (d + 1) o0 S =
  zif ((S.1 2 o0 5) ≤ 0) (
    some ((-1 : Int32), S)) (
    zg (zin ((S.1 2 o0 5) - (1 : Int32)) 97) (
    some ((S.1 29 o0 (zx ((S.1 2 o0 5) - (1 : Int32)))), S))) := zeqi d 19 2 0 [some (zr 2 o0)] [] S
set_option maxRecDepth 100000 in
theorem eL_ofCall (d : Nat) (o0 : Nat) (a1 : Int32) (S : ZS) : zL_ofCall (d + 1) o0 a1 S =
  zif (a1 = (1 : Int32)) (
    some ((S.1 2 o0 3), S)) (
  zif (a1 = (2 : Int32)) (
    (zL_head d o0 S).bind (fun r1 =>
    some (r1.1, r1.2))) (
  zif (a1 = (3 : Int32)) (
    some ((S.1 2 o0 10), S)) (
  zif (a1 = (4 : Int32)) (
    some ((S.1 2 o0 6), S)) (
  zif (a1 = (5 : Int32)) (
    some ((S.1 2 o0 11), S)) (
  some ((-1 : Int32), S)))))) := zeqi d 20 2 0 [some (zr 2 o0), some (zi a1)] [] S
set_option maxRecDepth 100000 in
theorem eL_noteDigit (d : Nat) (o0 : Nat) (a1 : Int32) (S : ZS) : zL_noteDigit (d + 1) o0 a1 S =
  zif ((5 : Int32) ≤ (S.1 2 o0 6)) (
    zL_noteDigit_18 d o0 a1 S) (
    zg (zin (S.1 2 o0 6) 5) (
    zL_noteDigit_18 d o0 a1 ((zu S.1 30 o0 (zx (S.1 2 o0 6)) a1), S.2))) := zeqv d 21 2 0 [some (zr 2 o0), some (zi a1)] [] S
set_option maxRecDepth 100000 in
theorem eL_noteDigit_18 (d : Nat) (a0 : Nat) (a1 : Int32) (S : ZS) : zL_noteDigit_18 d a0 a1 S =
  some ((zu (zu (zu S.1 2 a0 6 ((S.1 2 a0 6) + (1 : Int32))) 2 a0 8 (((zu S.1 2 a0 6 ((S.1 2 a0 6) + (1 : Int32))) 2 a0 8) + (1 : Int32))) 2 a0 9 ((((zu (zu S.1 2 a0 6 ((S.1 2 a0 6) + (1 : Int32))) 2 a0 8 (((zu S.1 2 a0 6 ((S.1 2 a0 6) + (1 : Int32))) 2 a0 8) + (1 : Int32))) 2 a0 9) * (10 : Int32)) + a1)), S.2) := zeqv d 21 2 18 [some (zr 2 a0), some (zi a1)] [] S
set_option maxRecDepth 100000 in
theorem eL_addHeld (d : Nat) (o0 : Nat) (a1 : Int32) (S : ZS) : zL_addHeld (d + 1) o0 a1 S =
  zif ((Int32.ofNat 97) ≤ (S.1 2 o0 5)) (
    some ((zu (zu S.1 2 o0 8 (0 : Int32)) 2 o0 9 (0 : Int32)), S.2)) (
    zg (zin (S.1 2 o0 5) 97) (
    some ((zu (zu (zu (zu S.1 29 o0 (zx (S.1 2 o0 5)) a1) 2 o0 5 (((zu S.1 29 o0 (zx (S.1 2 o0 5)) a1) 2 o0 5) + (1 : Int32))) 2 o0 8 (0 : Int32)) 2 o0 9 (0 : Int32)), S.2))) := zeqv d 22 2 0 [some (zr 2 o0), some (zi a1)] [] S
set_option maxRecDepth 100000 in
theorem eL_clear (d : Nat) (o0 : Nat) (S : ZS) : zL_clear (d + 1) o0 S =
  some ((zu (zu (zu (zu (zu S.1 2 o0 2 (0 : Int32)) 2 o0 5 (0 : Int32)) 2 o0 6 (0 : Int32)) 2 o0 10 (-1 : Int32)) 2 o0 11 (-1 : Int32)), S.2) := zeqv d 23 2 0 [some (zr 2 o0)] [] S
set_option maxRecDepth 100000 in
theorem eO_measure (d : Nat) (a1 : Int32) (a2 : Int32) (a3 : Int32) (S : ZS) : zO_measure (d + 1) a1 a2 a3 S =
  (zP_isLevel d a1 a2 S).bind (fun r1 =>
  zif (r1.1 = 0) (
    some ((0 : Int32), r1.2)) (
    zif (a3 < (1 : Int32)) (
      some ((0 : Int32), r1.2)) (
      zg (zin a1 12) (
      zif (a3 ≤ (r1.2.1 34 0 (zx a1))) (
        zO_measure_40 d a1 a2 (0 : Int32) ((zu r1.2.1 3 0 3 (0 : Int32)), r1.2.2)) (
        some ((0 : Int32), r1.2)))))) := zeqi d 24 3 0 [some (zr 3 0), some (zi a1), some (zi a2), some (zi a3), none, none] [] S
set_option maxRecDepth 100000 in
theorem eO_measure_40 (d : Nat) (a1 : Int32) (a2 : Int32) (a4 : Int32) (S : ZS) : zO_measure_40 d a1 a2 a4 S =
  zif ((2 : Int32) ≤ a4) (
    zO_measure_96 d a1 (0 : Int32) S) (
    zg (zin a4 2) (
    zg (zin a4 2) (
    zO_measure_65 d a1 a2 a4 (0 : Int32) ((zu (zu S.1 31 0 (zx a4) (0 : Int32)) 32 0 (zx a4) (0 : Int32)), S.2)))) := zeqi d 24 3 40 [some (zr 3 0), some (zi a1), some (zi a2), none, some (zi a4), none] [] S
set_option maxRecDepth 100000 in
theorem eO_measure_65 (d : Nat) (a1 : Int32) (a2 : Int32) (a4 : Int32) (a5 : Int32) (S : ZS) : zO_measure_65 d a1 a2 a4 a5 S =
  zif ((4 : Int32) ≤ a5) (
    zO_measure_40 d a1 a2 (a4 + (1 : Int32)) S) (
    (zO_countEnd d a1 a4 a2 a5 S).bind (fun r1 =>
    zO_measure_65 d a1 a2 a4 (a5 + (1 : Int32)) r1)) := zeqi d 24 3 65 [some (zr 3 0), some (zi a1), some (zi a2), none, some (zi a4), some (zi a5)] [] S
set_option maxRecDepth 100000 in
theorem eO_measure_96 (d : Nat) (a1 : Int32) (a4 : Int32) (S : ZS) : zO_measure_96 d a1 a4 S =
  zg (zin a1 12) (
  zif ((S.1 34 0 (zx a1)) ≤ a4) (
    some ((1 : Int32), S)) (
    (zP_sectionOf d ((a1 * (8 : Int32)) + a4) S).bind (fun r1 =>
    zg (zin r1.1 2) (
    zg (zin r1.1 2) (
    zO_measure_96 d a1 (a4 + (1 : Int32)) ((zu r1.2.1 32 0 (zx r1.1) ((r1.2.1 32 0 (zx r1.1)) + (1 : Int32))), r1.2.2)))))) := zeqi d 24 3 96 [some (zr 3 0), some (zi a1), none, none, some (zi a4), none] [] S
set_option maxRecDepth 100000 in
theorem eO_countEnd (d : Nat) (a1 : Int32) (a2 : Int32) (a3 : Int32) (a4 : Int32) (S : ZS) : zO_countEnd (d + 1) a1 a2 a3 a4 S =
  (zP_leadsTo d a1 a2 a3 a4 S).bind (fun r1 =>
  zif (r1.1 = (-1 : Int32)) (
    some r1.2) (
    (zP_isOut d r1.1 r1.2).bind (fun r2 =>
    zif (r2.1 = 0) (
      (zO_leadsWithin d a1 a2 a3 a4 r1.1 r2.2).bind (fun r3 =>
      zif (r3.1 = 0) (
        (zO_leadsWithin d a1 ((1 : Int32) - a2) a3 (4 : Int32) r1.1 r3.2).bind (fun r4 =>
        zif (r4.1 = 0) (
          zg (zin a2 2) (
          zg (zin a2 2) (
          some ((zu r4.2.1 31 0 (zx a2) ((r4.2.1 31 0 (zx a2)) + (1 : Int32))), r4.2.2)))) (
          zif (a2 = 0) (
            some ((zu r4.2.1 3 0 3 ((r4.2.1 3 0 3) + (1 : Int32))), r4.2.2)) (
            some r4.2)))) (
        some r3.2))) (
      some r2.2)))) := zeqv d 25 3 0 [some (zr 3 0), some (zi a1), some (zi a2), some (zi a3), some (zi a4), none] [] S
set_option maxRecDepth 100000 in
theorem eO_leadsWithin (d : Nat) (a1 : Int32) (a2 : Int32) (a3 : Int32) (a4 : Int32) (a5 : Int32) (S : ZS) : zO_leadsWithin (d + 1) a1 a2 a3 a4 a5 S =
  zO_leadsWithin_3 d a1 a2 a3 a4 a5 (0 : Int32) S := zeqi d 26 3 0 [some (zr 3 0), some (zi a1), some (zi a2), some (zi a3), some (zi a4), some (zi a5), none] [] S
set_option maxRecDepth 100000 in
theorem eO_leadsWithin_3 (d : Nat) (a1 : Int32) (a2 : Int32) (a3 : Int32) (a4 : Int32) (a5 : Int32) (a6 : Int32) (S : ZS) : zO_leadsWithin_3 d a1 a2 a3 a4 a5 a6 S =
  zif (a4 ≤ a6) (
    some ((0 : Int32), S)) (
    (zP_leadsTo d a1 a2 a3 a6 S).bind (fun r1 =>
    zif (r1.1 = a5) (
      some ((1 : Int32), r1.2)) (
      zO_leadsWithin_3 d a1 a2 a3 a4 a5 (a6 + (1 : Int32)) r1.2))) := zeqi d 26 3 3 [some (zr 3 0), some (zi a1), some (zi a2), some (zi a3), some (zi a4), some (zi a5), some (zi a6)] [] S
set_option maxRecDepth 100000 in
theorem eO_waysLost (d : Nat) (a1 : Int32) (a2 : Int32) (S : ZS) : zO_waysLost (d + 1) a1 a2 S =
  zO_waysLost_5 d a1 a2 (0 : Int32) (0 : Int32) S := zeqi d 27 3 0 [some (zr 3 0), some (zi a1), some (zi a2), none, none, none, none] [] S
set_option maxRecDepth 100000 in
theorem eO_waysLost_5 (d : Nat) (a1 : Int32) (a2 : Int32) (a3 : Int32) (a4 : Int32) (S : ZS) : zO_waysLost_5 d a1 a2 a3 a4 S =
  zif (a1 < a4) (
    some (a3, S)) (
    zg (zin (0 : Int32) 2) (
    (zci (zcall d) 1000 [zi (0 : Int32), zi (a4 - (S.1 31 0 (zx (0 : Int32))))] S).bind (fun r1 =>
    zg (zin (1 : Int32) 2) (
    (zci (zcall d) 1000 [zi (0 : Int32), zi ((a1 - a4) - (r1.2.1 31 0 (zx (1 : Int32))))] r1.2).bind (fun r2 =>
    zif ((r1.1 + r2.1) ≤ ((r2.2.1 3 0 3) + a2)) (
      zO_waysLost_5 d a1 a2 a3 (a4 + (1 : Int32)) r2.2) (
      zg (zin (0 : Int32) 2) (
      (zO_ways d (r2.2.1 32 0 (zx (0 : Int32))) a4 r2.2).bind (fun r3 =>
      zg (zin (1 : Int32) 2) (
      (zO_ways d (r3.2.1 32 0 (zx (1 : Int32))) (a1 - a4) r3.2).bind (fun r4 =>
      zO_waysLost_5 d a1 a2 (a3 + (r3.1 * r4.1)) (a4 + (1 : Int32)) r4.2)))))))))) := zeqi d 27 3 5 [some (zr 3 0), some (zi a1), some (zi a2), some (zi a3), some (zi a4), none, none] [] S
set_option maxRecDepth 100000 in
theorem eO_sharedMore (d : Nat) (a1 : Int32) (a2 : Int32) (S : ZS) : zO_sharedMore (d + 1) a1 a2 S =
  zg (zin (0 : Int32) 2) (
  zg (zin (1 : Int32) 2) (
  (zO_ways d ((S.1 32 0 (zx (0 : Int32))) + (S.1 32 0 (zx (1 : Int32)))) a1 S).bind (fun r1 =>
  zO_sharedMore_21 d a1 a2 r1.1 (0 : Int32) r1.2))) := zeqi d 28 3 0 [some (zr 3 0), some (zi a1), some (zi a2), none, none] [] S
set_option maxRecDepth 100000 in
theorem eO_sharedMore_21 (d : Nat) (a1 : Int32) (a2 : Int32) (a3 : Int32) (a4 : Int32) (S : ZS) : zO_sharedMore_21 d a1 a2 a3 a4 S =
  zif (a1 ≤ a4) (
    some (a4, S)) (
    (zO_waysLost d a1 a4 S).bind (fun r1 =>
    zif ((r1.1 * (1000 : Int32)) ≤ (a2 * a3)) (
      some (a4, r1.2)) (
      zO_sharedMore_21 d a1 a2 a3 (a4 + (1 : Int32)) r1.2))) := zeqi d 28 3 21 [some (zr 3 0), some (zi a1), some (zi a2), some (zi a3), some (zi a4)] [] S
set_option maxRecDepth 100000 in
theorem eO_ways (d : Nat) (a0 : Int32) (a1 : Int32) (S : ZS) : zO_ways (d + 1) a0 a1 S =
  zif (a1 = 0) (
    some ((1 : Int32), S)) (
    zif (0 < a0) (
      (zO_ways d (a0 - (1 : Int32)) (a1 - (1 : Int32)) S).bind (fun r1 =>
      (zO_ways d (a0 - (1 : Int32)) a1 r1.2).bind (fun r2 =>
      some ((r1.1 + r2.1), r2.2)))) (
      some ((0 : Int32), S))) := zeqi d 29 3 0 [some (zi a0), some (zi a1)] [] S
set_option maxRecDepth 100000 in
theorem eP_addRack (d : Nat) (a1 : Int32) (a2 : Int32) (a3 : Int32) (S : ZS) : zP_addRack (d + 1) a1 a2 a3 S =
  zif (a1 = 0) (
    zP_addRack_18 d a1 a2 a3 (2 : Int32) S) (
    zif (a1 = (1 : Int32)) (
      zP_addRack_18 d a1 a2 a3 (1 : Int32) S) (
      zP_addRack_18 d a1 a2 a3 (0 : Int32) S)) := zeqi d 30 4 0 [some (zr 4 0), some (zi a1), some (zi a2), some (zi a3), none] [] S
set_option maxRecDepth 100000 in
theorem eP_addRack_18 (d : Nat) (a1 : Int32) (a2 : Int32) (a3 : Int32) (s0 : Int32) (S : ZS) : zP_addRack_18 d a1 a2 a3 s0 S =
  zif (a3 < (1 : Int32)) (
    some ((-1 : Int32), S)) (
    zif (s0 < a3) (
      some ((-1 : Int32), S)) (
      zif (a2 < (1 : Int32)) (
        some ((-1 : Int32), S)) (
        zif ((8 : Int32) < a2) (
          some ((-1 : Int32), S)) (
          zif ((S.1 4 0 0) = (12 : Int32)) (
            some ((-1 : Int32), S)) (
            zg (zin (S.1 4 0 0) 12) (
            zg (zin ((zu S.1 33 0 (zx (S.1 4 0 0)) a1) 4 0 0) 12) (
            zg (zin ((zu (zu S.1 33 0 (zx (S.1 4 0 0)) a1) 34 0 (zx ((zu S.1 33 0 (zx (S.1 4 0 0)) a1) 4 0 0)) a2) 4 0 0) 12) (
            some ((((zu (zu (zu (zu S.1 33 0 (zx (S.1 4 0 0)) a1) 34 0 (zx ((zu S.1 33 0 (zx (S.1 4 0 0)) a1) 4 0 0)) a2) 35 0 (zx ((zu (zu S.1 33 0 (zx (S.1 4 0 0)) a1) 34 0 (zx ((zu S.1 33 0 (zx (S.1 4 0 0)) a1) 4 0 0)) a2) 4 0 0)) a3) 4 0 0 (((zu (zu (zu S.1 33 0 (zx (S.1 4 0 0)) a1) 34 0 (zx ((zu S.1 33 0 (zx (S.1 4 0 0)) a1) 4 0 0)) a2) 35 0 (zx ((zu (zu S.1 33 0 (zx (S.1 4 0 0)) a1) 34 0 (zx ((zu S.1 33 0 (zx (S.1 4 0 0)) a1) 4 0 0)) a2) 4 0 0)) a3) 4 0 0) + (1 : Int32))) 4 0 0) - (1 : Int32)), ((zu (zu (zu (zu S.1 33 0 (zx (S.1 4 0 0)) a1) 34 0 (zx ((zu S.1 33 0 (zx (S.1 4 0 0)) a1) 4 0 0)) a2) 35 0 (zx ((zu (zu S.1 33 0 (zx (S.1 4 0 0)) a1) 34 0 (zx ((zu S.1 33 0 (zx (S.1 4 0 0)) a1) 4 0 0)) a2) 4 0 0)) a3) 4 0 0 (((zu (zu (zu S.1 33 0 (zx (S.1 4 0 0)) a1) 34 0 (zx ((zu S.1 33 0 (zx (S.1 4 0 0)) a1) 4 0 0)) a2) 35 0 (zx ((zu (zu S.1 33 0 (zx (S.1 4 0 0)) a1) 34 0 (zx ((zu S.1 33 0 (zx (S.1 4 0 0)) a1) 4 0 0)) a2) 4 0 0)) a3) 4 0 0) + (1 : Int32))), S.2)))))))))) := zeqi d 30 4 18 [some (zr 4 0), some (zi a1), some (zi a2), some (zi a3), none] [zi s0] S
set_option maxRecDepth 100000 in
theorem eP_lead (d : Nat) (a1 : Int32) (a2 : Int32) (a3 : Int32) (a4 : Int32) (a5 : Int32) (S : ZS) : zP_lead (d + 1) a1 a2 a3 a4 a5 S =
  (zP_isLevel d a1 a3 S).bind (fun r1 =>
  zif (r1.1 = 0) (
    some ((0 : Int32), r1.2)) (
    zif (a2 < 0) (
      some ((0 : Int32), r1.2)) (
      zg (zin a1 12) (
      zif ((r1.2.1 35 0 (zx a1)) ≤ a2) (
        some ((0 : Int32), r1.2)) (
        zif (a4 < 0) (
          some ((0 : Int32), r1.2)) (
          zif (a4 < (4 : Int32)) (
            (zP_isEnd d a5 r1.2).bind (fun r2 =>
            zif (r2.1 = 0) (
              zP_lead_59 d a1 a2 a3 a4 a5 (0 : Int32) r2.2) (
              zif ((a5 / (8 : Int32)) = a1) (
                zP_lead_59 d a1 a2 a3 a4 a5 (0 : Int32) r2.2) (
                zP_lead_59 d a1 a2 a3 a4 a5 (1 : Int32) r2.2)))) (
            some ((0 : Int32), r1.2)))))))) := zeqi d 31 4 0 [some (zr 4 0), some (zi a1), some (zi a2), some (zi a3), some (zi a4), some (zi a5), none] [] S
set_option maxRecDepth 100000 in
theorem eP_lead_59 (d : Nat) (a1 : Int32) (a2 : Int32) (a3 : Int32) (a4 : Int32) (a5 : Int32) (s0 : Int32) (S : ZS) : zP_lead_59 d a1 a2 a3 a4 a5 s0 S =
  zif (a5 = (-1 : Int32)) (
    (zP_spot d a1 a2 a3 S).bind (fun r1 =>
    zg (zin (r1.1 + a4) 960) (
    some ((1 : Int32), ((zu r1.2.1 36 0 (zx (r1.1 + a4)) a5), r1.2.2))))) (
    zif (s0 = 0) (
      some ((0 : Int32), S)) (
      (zP_spot d a1 a2 a3 S).bind (fun r2 =>
      zg (zin (r2.1 + a4) 960) (
      some ((1 : Int32), ((zu r2.2.1 36 0 (zx (r2.1 + a4)) a5), r2.2.2)))))) := zeqi d 31 4 59 [some (zr 4 0), some (zi a1), some (zi a2), some (zi a3), some (zi a4), some (zi a5), none] [zi s0] S
set_option maxRecDepth 100000 in
theorem eP_tellZone (d : Nat) (a1 : Int32) (a2 : Int32) (S : ZS) : zP_tellZone (d + 1) a1 a2 S =
  zif (a1 < 0) (
    some ((0 : Int32), S)) (
    zif ((16 : Int32) ≤ a1) (
      some ((0 : Int32), S)) (
      zif (a2 < (1 : Int32)) (
        some ((0 : Int32), S)) (
        zif (a2 ≤ (9 : Int32)) (
          zg (zin a1 16) (
          some ((1 : Int32), ((zu S.1 40 0 (zx a1) a2), S.2)))) (
          some ((0 : Int32), S))))) := zeqi d 32 4 0 [some (zr 4 0), some (zi a1), some (zi a2)] [] S
set_option maxRecDepth 100000 in
theorem eP_isRackOf (d : Nat) (a1 : Int32) (a2 : Int32) (S : ZS) : zP_isRackOf (d + 1) a1 a2 S =
  zif (a2 < 0) (
    some ((0 : Int32), S)) (
    zif ((S.1 4 0 0) ≤ a2) (
      some ((0 : Int32), S)) (
      zg (zin a2 12) (
      zif ((S.1 33 0 (zx a2)) = a1) (
        some ((1 : Int32), S)) (
        some ((0 : Int32), S))))) := zeqi d 33 4 0 [some (zr 4 0), some (zi a1), some (zi a2)] [] S
set_option maxRecDepth 100000 in
theorem eP_isLevel (d : Nat) (a1 : Int32) (a2 : Int32) (S : ZS) : zP_isLevel (d + 1) a1 a2 S =
  (zP_isRackOf d (0 : Int32) a1 S).bind (fun r1 =>
  zif (r1.1 = 0) (
    some ((0 : Int32), r1.2)) (
    zif (a2 < 0) (
      some ((0 : Int32), r1.2)) (
      zif ((10 : Int32) ≤ a2) (
        some ((0 : Int32), r1.2)) (
        some ((1 : Int32), r1.2))))) := zeqi d 34 4 0 [some (zr 4 0), some (zi a1), some (zi a2)] [] S
set_option maxRecDepth 100000 in
theorem eP_isSwitch (d : Nat) (a1 : Int32) (S : ZS) : zP_isSwitch (d + 1) a1 S =
  zif (a1 < 0) (
    zP_isSwitch_20 d a1 (0 : Int32) S) (
    zif (((S.1 4 0 0) * (8 : Int32)) ≤ a1) (
      zP_isSwitch_20 d a1 (0 : Int32) S) (
      zP_isSwitch_20 d a1 (1 : Int32) S)) := zeqi d 35 4 0 [some (zr 4 0), some (zi a1), none] [] S
set_option maxRecDepth 100000 in
theorem eP_isSwitch_20 (d : Nat) (a1 : Int32) (s0 : Int32) (S : ZS) : zP_isSwitch_20 d a1 s0 S =
  zif (s0 = 0) (
    some ((0 : Int32), S)) (
    zg (zin (a1 / (8 : Int32)) 12) (
    zif ((S.1 34 0 (zx (a1 / (8 : Int32)))) ≤ (a1 - a1 / (8 : Int32) * (8 : Int32))) (
      some ((0 : Int32), S)) (
      some ((1 : Int32), S)))) := zeqi d 35 4 20 [some (zr 4 0), some (zi a1), none] [zi s0] S
set_option maxRecDepth 100000 in
theorem eP_isEnd (d : Nat) (a1 : Int32) (S : ZS) : zP_isEnd (d + 1) a1 S =
  (zP_isSwitch d a1 S).bind (fun r1 =>
  zif (r1.1 = 0) (
    (zP_isJunction d a1 r1.2).bind (fun r2 =>
    zif (r2.1 = 0) (
      some ((0 : Int32), r2.2)) (
      some ((1 : Int32), r2.2)))) (
    some ((1 : Int32), r1.2))) := zeqi d 36 4 0 [some (zr 4 0), some (zi a1)] [] S
set_option maxRecDepth 100000 in
theorem eP_isJunction (d : Nat) (a1 : Int32) (S : ZS) : zP_isJunction (d + 1) a1 S =
  zif (a1 < (100 : Int32)) (
    some ((0 : Int32), S)) (
    zif ((116 : Int32) ≤ a1) (
      some ((0 : Int32), S)) (
      some ((1 : Int32), S))) := zeqi d 37 4 0 [some (zr 4 0), some (zi a1)] [] S
set_option maxRecDepth 100000 in
theorem eP_isFinal (d : Nat) (a1 : Int32) (S : ZS) : zP_isFinal (d + 1) a1 S =
  zif (a1 < 0) (
    some ((0 : Int32), S)) (
    zif ((96 : Int32) ≤ a1) (
      some ((0 : Int32), S)) (
      zg (zin (a1 / (8 : Int32)) 12) (
      zif ((S.1 33 0 (zx (a1 / (8 : Int32)))) = (1 : Int32)) (
        some ((1 : Int32), S)) (
        some ((0 : Int32), S))))) := zeqi d 38 4 0 [some (zr 4 0), some (zi a1)] [] S
set_option maxRecDepth 100000 in
theorem eP_zoneOf (d : Nat) (a1 : Int32) (S : ZS) : zP_zoneOf (d + 1) a1 S =
  (zP_isJunction d a1 S).bind (fun r1 =>
  zif (r1.1 = 0) (
    some ((0 : Int32), r1.2)) (
    zg (zin (a1 - (100 : Int32)) 16) (
    some ((r1.2.1 40 0 (zx (a1 - (100 : Int32)))), r1.2)))) := zeqi d 39 4 0 [some (zr 4 0), some (zi a1)] [] S
set_option maxRecDepth 100000 in
theorem eP_spot (d : Nat) (a0 : Int32) (a1 : Int32) (a2 : Int32) (S : ZS) : zP_spot (d + 1) a0 a1 a2 S =
  some ((((((a0 * (2 : Int32)) + a1) * (10 : Int32)) + a2) * (4 : Int32)), S) := zeqi d 40 4 0 [some (zi a0), some (zi a1), some (zi a2)] [] S
set_option maxRecDepth 100000 in
theorem eP_leadsTo (d : Nat) (a1 : Int32) (a2 : Int32) (a3 : Int32) (a4 : Int32) (S : ZS) : zP_leadsTo (d + 1) a1 a2 a3 a4 S =
  (zP_spot d a1 a2 a3 S).bind (fun r1 =>
  zg (zin (r1.1 + a4) 960) (
  some ((r1.2.1 36 0 (zx (r1.1 + a4))), r1.2))) := zeqi d 41 4 0 [some (zr 4 0), some (zi a1), some (zi a2), some (zi a3), some (zi a4)] [] S
set_option maxRecDepth 100000 in
theorem eP_leadsFrom (d : Nat) (a1 : Int32) (a2 : Int32) (a3 : Int32) (S : ZS) : zP_leadsFrom (d + 1) a1 a2 a3 S =
  zif (a1 < 0) (
    some ((-1 : Int32), S)) (
    zif ((96 : Int32) ≤ a1) (
      some ((-1 : Int32), S)) (
      zif (a2 < 0) (
        some ((-1 : Int32), S)) (
        zif (a2 < (10 : Int32)) (
          (zP_sectionOf d a1 S).bind (fun r1 =>
          (zP_spot d (a1 / (8 : Int32)) r1.1 a2 r1.2).bind (fun r2 =>
          zg (zin (r2.1 + a3) 960) (
          some ((r2.2.1 36 0 (zx (r2.1 + a3))), r2.2))))) (
          some ((-1 : Int32), S))))) := zeqi d 42 4 0 [some (zr 4 0), some (zi a1), some (zi a2), some (zi a3)] [] S
set_option maxRecDepth 100000 in
theorem eP_isOut (d : Nat) (a1 : Int32) (S : ZS) : zP_isOut (d + 1) a1 S =
  zif (a1 < 0) (
    some ((0 : Int32), S)) (
    zif ((96 : Int32) ≤ a1) (
      some ((0 : Int32), S)) (
      zg (zin a1 96) (
      zif ((S.1 37 0 (zx a1)) = 0) (
        some ((0 : Int32), S)) (
        some ((1 : Int32), S))))) := zeqi d 43 4 0 [some (zr 4 0), some (zi a1)] [] S
set_option maxRecDepth 100000 in
theorem eP_isFaulty (d : Nat) (a1 : Int32) (S : ZS) : zP_isFaulty (d + 1) a1 S =
  zif (a1 < 0) (
    some ((0 : Int32), S)) (
    zif ((96 : Int32) ≤ a1) (
      some ((0 : Int32), S)) (
      zg (zin a1 96) (
      zif ((S.1 38 0 (zx a1)) = 0) (
        some ((0 : Int32), S)) (
        some ((1 : Int32), S))))) := zeqi d 44 4 0 [some (zr 4 0), some (zi a1)] [] S
set_option maxRecDepth 100000 in
theorem eP_canTake (d : Nat) (a1 : Int32) (S : ZS) : zP_canTake (d + 1) a1 S =
  zif (a1 < 0) (
    some ((0 : Int32), S)) (
    zif ((116 : Int32) ≤ a1) (
      some ((0 : Int32), S)) (
      zg (zin a1 116) (
      zif ((S.1 39 0 (zx a1)) = (-1 : Int32)) (
        (zP_isOut d a1 S).bind (fun r1 =>
        zif (r1.1 = 0) (
          some ((1 : Int32), r1.2)) (
          some ((0 : Int32), r1.2)))) (
        some ((0 : Int32), S))))) := zeqi d 45 4 0 [some (zr 4 0), some (zi a1)] [] S
set_option maxRecDepth 100000 in
theorem eP_heldWithin (d : Nat) (a1 : Int32) (a2 : Int32) (S : ZS) : zP_heldWithin (d + 1) a1 a2 S =
  zP_heldWithin_5 d a2 (0 : Int32) a1 S := zeqi d 46 4 0 [some (zr 4 0), some (zi a1), some (zi a2), none, none] [] S
set_option maxRecDepth 100000 in
theorem eP_heldWithin_5 (d : Nat) (a2 : Int32) (a3 : Int32) (a4 : Int32) (S : ZS) : zP_heldWithin_5 d a2 a3 a4 S =
  zif (a2 ≤ a4) (
    some (a3, S)) (
    zg (zin a4 116) (
    zif ((S.1 39 0 (zx a4)) = (-1 : Int32)) (
      zP_heldWithin_5 d a2 (a3 + (0 : Int32)) (a4 + (1 : Int32)) S) (
      zP_heldWithin_5 d a2 (a3 + (1 : Int32)) (a4 + (1 : Int32)) S))) := zeqi d 46 4 5 [some (zr 4 0), none, some (zi a2), some (zi a3), some (zi a4)] [] S
set_option maxRecDepth 100000 in
theorem eP_allSwitches (d : Nat)  (S : ZS) : zP_allSwitches (d + 1)  S =
  zP_allSwitches_4 d (0 : Int32) (0 : Int32) S := zeqi d 47 4 0 [some (zr 4 0), none, none] [] S
set_option maxRecDepth 100000 in
theorem eP_allSwitches_4 (d : Nat) (a1 : Int32) (a2 : Int32) (S : ZS) : zP_allSwitches_4 d a1 a2 S =
  zif ((S.1 4 0 0) ≤ a2) (
    some (a1, S)) (
    zg (zin a2 12) (
    zP_allSwitches_4 d (a1 + (S.1 34 0 (zx a2))) (a2 + (1 : Int32)) S)) := zeqi d 47 4 4 [some (zr 4 0), some (zi a1), some (zi a2)] [] S
set_option maxRecDepth 100000 in
theorem eR_fewestMoved (d : Nat) (a1 : Int32) (a2 : Int32) (a3 : Int32) (S : ZS) : zR_fewestMoved (d + 1) a1 a2 a3 S =
  zg (zin a1 40) (
  (zcv (zcall d) 96 [zr 9 0, zo (S.2.2.1 20 0 (zx a1)), zi a2, zi a3] S).bind (fun r1 =>
  zg (zbl (0 : Int32)) (
  (zR_canLay d 0 ((zu (zu r1.1 5 0 5 (-1 : Int32)) 5 0 4 (0 : Int32)), r1.2)).bind (fun r2 =>
  zif (r2.1 = 0) (
    zR_fewestMoved_44 d (0 : Int32) r2.2) (
    some ((0 : Int32), r2.2)))))) := zeqi d 48 5 0 [some (zr 5 0), some (zi a1), some (zi a2), some (zi a3), none] [] S
set_option maxRecDepth 100000 in
theorem eR_fewestMoved_44 (d : Nat) (a4 : Int32) (S : ZS) : zR_fewestMoved_44 d a4 S =
  zif ((S.1 0 0 3) ≤ a4) (
    zif ((S.1 5 0 5) = (-1 : Int32)) (
      some ((-1 : Int32), S)) (
      some ((1 : Int32), S))) (
    zif ((S.1 5 0 5) = (-1 : Int32)) (
      zg (zin a4 40) (
      (zci (zcall d) 49 [zo (S.2.2.1 20 0 (zx a4))] S).bind (fun r1 =>
      zif (r1.1 = 0) (
        zR_fewestMoved_44 d (a4 + (1 : Int32)) r1.2) (
        zg (zin a4 40) (
        (zci (zcall d) 50 [zr 5 0, zo (r1.2.2.2.1 20 0 (zx a4))] r1.2).bind (fun r2 =>
        zif (r2.1 = 0) (
          zR_fewestMoved_44 d (a4 + (1 : Int32)) r2.2) (
          zR_fewestMoved_44 d (a4 + (1 : Int32)) ((zu r2.2.1 5 0 5 a4), r2.2.2)))))))) (
      zif ((S.1 5 0 5) = (-1 : Int32)) (
        some ((-1 : Int32), S)) (
        some ((1 : Int32), S)))) := zeqi d 48 5 44 [some (zr 5 0), none, none, none, some (zi a4)] [] S
set_option maxRecDepth 100000 in
theorem eR_canMove (d : Nat) (o0 : Nat) (S : ZS) : zR_canMove (d + 1) o0 S =
  zif ((S.1 2 o0 3) = (5 : Int32)) (
    zR_canMove_22 d o0 (1 : Int32) S) (
    zif ((S.1 2 o0 3) = (6 : Int32)) (
      zR_canMove_22 d o0 (1 : Int32) S) (
      zR_canMove_22 d o0 (0 : Int32) S)) := zeqi d 49 5 0 [some (zr 2 o0), none] [] S
set_option maxRecDepth 100000 in
theorem eR_canMove_22 (d : Nat) (a0 : Nat) (s0 : Int32) (S : ZS) : zR_canMove_22 d a0 s0 S =
  zif ((S.1 2 a0 2) = (1 : Int32)) (
    zif (s0 = 0) (
      some ((0 : Int32), S)) (
      zif ((5 : Int32) < (S.1 2 a0 6)) (
        some ((0 : Int32), S)) (
        some ((1 : Int32), S)))) (
    some ((0 : Int32), S)) := zeqi d 49 5 22 [some (zr 2 a0), none] [zi s0] S
set_option maxRecDepth 100000 in
theorem eR_laysBoth (d : Nat) (o1 : Nat) (S : ZS) : zR_laysBoth (d + 1) o1 S =
  (zW_again d 1 o1 S).bind (fun r1 =>
  (zC_setHolder d o1 (-1 : Int32) r1).bind (fun r2 =>
  zg (zbl (0 : Int32)) (
  (zR_canLay d 0 ((zu r2.1 5 0 4 (0 : Int32)), r2.2)).bind (fun r3 =>
  zif (r3.1 = 0) (
    (zC_setHolder d o1 (r3.2.1 2 o1 0) r3.2).bind (fun r4 =>
    zgb r3.1 (some (r3.1, r4)))) (
    zg (zbl (1 : Int32)) (
    (zR_canLay d 0 ((zu r3.2.1 5 0 4 (1 : Int32)), r3.2.2)).bind (fun r5 =>
    (zC_setHolder d o1 (r5.2.1 2 o1 0) r5.2).bind (fun r6 =>
    zgb r5.1 (some (r5.1, r6)))))))))) := zeqi d 50 5 0 [some (zr 5 0), some (zr 2 o1), none] [] S
set_option maxRecDepth 100000 in
theorem eR_canLay (d : Nat) (o1 : Nat) (S : ZS) : zR_canLay (d + 1) o1 S =
  zR_canLay_10 d o1 ((S.1 9 o1 1) * (8 : Int32)) ((S.1 9 o1 1) * (8 : Int32)) S := zeqi d 51 5 0 [some (zr 5 0), some (zr 9 o1), none, none] [] S
set_option maxRecDepth 100000 in
theorem eR_canLay_10 (d : Nat) (a1 : Nat) (a2 : Int32) (a3 : Int32) (S : ZS) : zR_canLay_10 d a1 a2 a3 S =
  zg (zin (S.1 9 a1 1) 12) (
  zif ((a2 + (S.1 34 0 (zx (S.1 9 a1 1)))) ≤ a3) (
    some ((0 : Int32), S)) (
    (zR_layOver d a1 a3 (0 : Int32) S).bind (fun r1 =>
    zif (r1.1 = 0) (
      zR_canLay_10 d a1 a2 (a3 + (1 : Int32)) r1.2) (
      some ((1 : Int32), r1.2))))) := zeqi d 51 5 10 [some (zr 5 0), some (zr 9 a1), some (zi a2), some (zi a3)] [] S
set_option maxRecDepth 100000 in
theorem eR_layOver (d : Nat) (o1 : Nat) (a2 : Int32) (a3 : Int32) (S : ZS) : zR_layOver (d + 1) o1 a2 a3 S =
  (zP_canTake d a2 S).bind (fun r1 =>
  zif (r1.1 = 0) (
    some ((0 : Int32), r1.2)) (
    (zP_isFaulty d a2 r1.2).bind (fun r2 =>
    zif (r2.1 = 0) (
      zg (zin a2 116) (
      (zR_goesOn d o1 a2 a3 ((zu r2.2.1 39 0 (zx a2) (r2.2.1 9 o1 0)), r2.2.2)).bind (fun r3 =>
      zg (zin a2 116) (
      zgb r3.1 (some (r3.1, ((zu r3.2.1 39 0 (zx a2) (-1 : Int32)), r3.2.2))))))) (
      some ((0 : Int32), r2.2))))) := zeqi d 52 5 0 [some (zr 5 0), some (zr 9 o1), some (zi a2), some (zi a3), none] [] S
set_option maxRecDepth 100000 in
theorem eR_goesOn (d : Nat) (o1 : Nat) (a2 : Int32) (a3 : Int32) (S : ZS) : zR_goesOn (d + 1) o1 a2 a3 S =
  (zP_isJunction d a2 S).bind (fun r1 =>
  zif (r1.1 = 0) (
    (zP_isFinal d a2 r1.2).bind (fun r2 =>
    zif (r2.1 = 0) (
      zif (a3 < (r2.2.1 9 o1 3)) (
        zR_goesOn_84 d o1 a2 a3 (0 : Int32) r2.2) (
        some ((0 : Int32), r2.2))) (
      (zW_ringsAtFinal d o1 a2 a3 r2.2).bind (fun r3 =>
      zif (r3.1 = 0) (
        some ((0 : Int32), r3.2)) (
        (zR_restIsLaid d o1 r3.2).bind (fun r4 =>
        zif (r4.1 = 0) (
          some ((0 : Int32), r4.2)) (
          some ((1 : Int32), r4.2)))))))) (
    (zW_ringsOverJunction d o1 a3 r1.2).bind (fun r5 =>
    zif (r5.1 = 0) (
      some ((0 : Int32), r5.2)) (
      (zR_restIsLaid d o1 r5.2).bind (fun r6 =>
      zif (r6.1 = 0) (
        some ((0 : Int32), r6.2)) (
        some ((1 : Int32), r6.2))))))) := zeqi d 53 5 0 [some (zr 5 0), some (zr 9 o1), some (zi a2), some (zi a3), none] [] S
set_option maxRecDepth 100000 in
theorem eR_goesOn_84 (d : Nat) (a1 : Nat) (a2 : Int32) (a3 : Int32) (a4 : Int32) (S : ZS) : zR_goesOn_84 d a1 a2 a3 a4 S =
  zif ((4 : Int32) ≤ a4) (
    some ((0 : Int32), S)) (
    zg (zin a3 5) (
    (zP_leadsFrom d a2 (S.1 58 a1 (zx a3)) a4 S).bind (fun r1 =>
    (zR_layOver d a1 r1.1 (a3 + (1 : Int32)) r1.2).bind (fun r2 =>
    zif (r2.1 = 0) (
      zR_goesOn_84 d a1 a2 a3 (a4 + (1 : Int32)) r2.2) (
      some ((1 : Int32), r2.2)))))) := zeqi d 53 5 84 [some (zr 5 0), some (zr 9 a1), some (zi a2), some (zi a3), some (zi a4)] [] S
set_option maxRecDepth 100000 in
theorem eR_restIsLaid (d : Nat) (o1 : Nat) (S : ZS) : zR_restIsLaid (d + 1) o1 S =
  zif ((S.1 5 0 4) = 0) (
    some ((1 : Int32), S)) (
    zif ((some (9, o1)) = (some (9, 1))) (
      some ((1 : Int32), S)) (
      (zR_canLay d 1 S).bind (fun r1 =>
      zif (r1.1 = 0) (
        some ((0 : Int32), r1.2)) (
        some ((1 : Int32), r1.2))))) := zeqi d 54 5 0 [some (zr 5 0), some (zr 9 o1)] [] S
set_option maxRecDepth 100000 in
theorem eT_addSigns (d : Nat) (w1 : Int64) (S : ZS) : zT_addSigns (d + 1) w1 S =
  zT_addSigns_3 d w1 (56 : Int32) S := zeqv d 55 6 0 [some (zr 6 0), some (zl w1), none, none, none, none] [] S
set_option maxRecDepth 100000 in
theorem eT_addSigns_3 (d : Nat) (a1 : Int64) (a3 : Int32) (S : ZS) : zT_addSigns_3 d a1 a3 S =
  zif (a3 < 0) (
    some S) (
    zif (((a1.toUInt64 >>> (a3.toInt64.toUInt64 &&& Int64.toUInt64 63)).toInt64 &&& (255 : Int64)).toInt32 = (10 : Int32)) (
      zT_addSigns_43 d a1 a3 ((a1.toUInt64 >>> (a3.toInt64.toUInt64 &&& Int64.toUInt64 63)).toInt64 &&& (255 : Int64)).toInt32 (1 : Int32) S) (
      zif (((a1.toUInt64 >>> (a3.toInt64.toUInt64 &&& Int64.toUInt64 63)).toInt64 &&& (255 : Int64)).toInt32 < (32 : Int32)) (
        zT_addSigns_43 d a1 a3 ((a1.toUInt64 >>> (a3.toInt64.toUInt64 &&& Int64.toUInt64 63)).toInt64 &&& (255 : Int64)).toInt32 (0 : Int32) S) (
        zif ((126 : Int32) < ((a1.toUInt64 >>> (a3.toInt64.toUInt64 &&& Int64.toUInt64 63)).toInt64 &&& (255 : Int64)).toInt32) (
          zT_addSigns_43 d a1 a3 ((a1.toUInt64 >>> (a3.toInt64.toUInt64 &&& Int64.toUInt64 63)).toInt64 &&& (255 : Int64)).toInt32 (0 : Int32) S) (
          zT_addSigns_43 d a1 a3 ((a1.toUInt64 >>> (a3.toInt64.toUInt64 &&& Int64.toUInt64 63)).toInt64 &&& (255 : Int64)).toInt32 (1 : Int32) S)))) := zeqv d 55 6 3 [some (zr 6 0), some (zl a1), none, some (zi a3), none, none] [] S
set_option maxRecDepth 100000 in
theorem eT_addSigns_43 (d : Nat) (a1 : Int64) (a3 : Int32) (a4 : Int32) (s0 : Int32) (S : ZS) : zT_addSigns_43 d a1 a3 a4 s0 S =
  zif (s0 = 0) (
    zT_addSigns_3 d a1 (a3 + (-8 : Int32)) S) (
    zif ((1000 : Int32) ≤ (S.1 6 0 1)) (
      zT_addSigns_3 d a1 (a3 + (-8 : Int32)) S) (
      zg (zin (S.1 6 0 1) 1000) (
      zT_addSigns_3 d a1 (a3 + (-8 : Int32)) ((zu (zu S.1 41 0 (zx (S.1 6 0 1)) ((a4.toUInt32 % 65536).toInt32.toUInt32 % 65536).toInt32) 6 0 1 (((zu S.1 41 0 (zx (S.1 6 0 1)) ((a4.toUInt32 % 65536).toInt32.toUInt32 % 65536).toInt32) 6 0 1) + (1 : Int32))), S.2)))) := zeqv d 55 6 43 [some (zr 6 0), some (zl a1), none, some (zi a3), some (zi a4), none] [zi s0] S
set_option maxRecDepth 100000 in
theorem eT_rewind (d : Nat)  (S : ZS) : zT_rewind (d + 1)  S =
  (zT_next d ((zu (zu S.1 6 0 3 (0 : Int32)) 6 0 4 (0 : Int32)), S.2)).bind (fun r1 =>
  some r1) := zeqv d 56 6 0 [some (zr 6 0)] [] S
set_option maxRecDepth 100000 in
theorem eT_next (d : Nat)  (S : ZS) : zT_next (d + 1)  S =
  zT_next_13 d ((zu S.1 6 0 3 ((S.1 6 0 3) + (S.1 6 0 4))), S.2) := zeqv d 57 6 0 [some (zr 6 0), none, none] [] S
set_option maxRecDepth 100000 in
theorem eT_next_13 (d : Nat)  (S : ZS) : zT_next_13 d  S =
  zif ((S.1 6 0 1) ≤ (S.1 6 0 3)) (
    zT_next_65 d S) (
    zg (zin (S.1 6 0 3) 1000) (
    zif ((S.1 41 0 (zx (S.1 6 0 3))) = (32 : Int32)) (
      zT_next_13 d ((zu S.1 6 0 3 ((S.1 6 0 3) + (1 : Int32))), S.2)) (
      zg (zin (S.1 6 0 3) 1000) (
      zif ((S.1 41 0 (zx (S.1 6 0 3))) = (10 : Int32)) (
        zT_next_13 d ((zu S.1 6 0 3 ((S.1 6 0 3) + (1 : Int32))), S.2)) (
        zT_next_65 d S))))) := zeqv d 57 6 13 [some (zr 6 0), none, none] [] S
set_option maxRecDepth 100000 in
theorem eT_next_65 (d : Nat)  (S : ZS) : zT_next_65 d  S =
  (zT_runFrom d (S.1 6 0 3) (97 : Int32) (122 : Int32) S).bind (fun r1 =>
  (zT_runFrom d (r1.2.1 6 0 3) (48 : Int32) (57 : Int32) r1.2).bind (fun r2 =>
  (zci (zcall d) 1000 [zi (1 : Int32), zi (r1.1 + r2.1)] r2.2).bind (fun r3 =>
  zif (r1.1 ≤ 0) (
    zT_next_121 d r1.1 r2.1 none ((zu r3.2.1 6 0 4 r3.1), r3.2.2)) (
    zif ((8 : Int32) < r1.1) (
      zT_next_121 d r1.1 r2.1 none ((zu r3.2.1 6 0 4 r3.1), r3.2.2)) (
      (zT_wordRead d ((zu r3.2.1 6 0 4 r3.1), r3.2.2)).bind (fun r4 =>
      zT_next_121 d r1.1 r2.1 r4.1 r4.2)))))) := zeqv d 57 6 65 [some (zr 6 0), none, none] [] S
set_option maxRecDepth 100000 in
theorem eT_next_121 (d : Nat) (a1 : Int32) (a2 : Int32) (s0 : Option ZR) (S : ZS) : zT_next_121 d a1 a2 s0 S =
  zif ((S.1 6 0 3) < (S.1 6 0 1)) (
    zif (a1 ≤ 0) (
      zif (a2 ≤ 0) (
        zg (zin (S.1 6 0 3) 1000) (
        (zS0_indexOf_0f7a4 d 13 (S.1 41 0 (zx (S.1 6 0 3))) (S.1, S.2.1, (zu S.2.2.1 6 0 5 s0), S.2.2.2)).bind (fun r1 =>
        zif (r1.1 < 0) (
          some ((zu r1.2.1 6 0 2 (4 : Int32)), r1.2.2)) (
          some ((zu r1.2.1 6 0 2 (3 : Int32)), r1.2.2))))) (
        zif ((4 : Int32) < a2) (
          some ((zu S.1 6 0 2 (4 : Int32)), S.2.1, (zu S.2.2.1 6 0 5 s0), S.2.2.2)) (
          some ((zu S.1 6 0 2 (2 : Int32)), S.2.1, (zu S.2.2.1 6 0 5 s0), S.2.2.2)))) (
      zif ((8 : Int32) < a1) (
        some ((zu S.1 6 0 2 (4 : Int32)), S.2.1, (zu S.2.2.1 6 0 5 s0), S.2.2.2)) (
        some ((zu S.1 6 0 2 (1 : Int32)), S.2.1, (zu S.2.2.1 6 0 5 s0), S.2.2.2)))) (
    some ((zu (zu S.1 6 0 2 (0 : Int32)) 6 0 4 (0 : Int32)), S.2.1, (zu S.2.2.1 6 0 5 s0), S.2.2.2)) := zeqv d 57 6 121 [some (zr 6 0), some (zi a1), some (zi a2)] [zo s0, zr 6 0] S
set_option maxRecDepth 100000 in
theorem eT_runFrom (d : Nat) (a1 : Int32) (a2 : Int32) (a3 : Int32) (S : ZS) : zT_runFrom (d + 1) a1 a2 a3 S =
  zT_runFrom_3 d a1 a2 a3 a1 S := zeqi d 58 6 0 [some (zr 6 0), some (zi a1), some (zi a2), some (zi a3), none] [] S
set_option maxRecDepth 100000 in
theorem eT_runFrom_3 (d : Nat) (a1 : Int32) (a2 : Int32) (a3 : Int32) (a4 : Int32) (S : ZS) : zT_runFrom_3 d a1 a2 a3 a4 S =
  zif ((S.1 6 0 1) ≤ a4) (
    some ((a4 - a1), S)) (
    zg (zin a4 1000) (
    zif ((S.1 41 0 (zx a4)) < a2) (
      some ((a4 - a1), S)) (
      zg (zin a4 1000) (
      zif (a3 < (S.1 41 0 (zx a4))) (
        some ((a4 - a1), S)) (
        zT_runFrom_3 d a1 a2 a3 (a4 + (1 : Int32)) S))))) := zeqi d 58 6 3 [some (zr 6 0), some (zi a1), some (zi a2), some (zi a3), some (zi a4)] [] S
set_option maxRecDepth 100000 in
theorem eT_isAtEnd (d : Nat)  (S : ZS) : zT_isAtEnd (d + 1)  S =
  zif ((S.1 6 0 2) = 0) (
    some ((1 : Int32), S)) (
    some ((0 : Int32), S)) := zeqi d 59 6 0 [some (zr 6 0)] [] S
set_option maxRecDepth 100000 in
theorem eT_isNumber (d : Nat)  (S : ZS) : zT_isNumber (d + 1)  S =
  zif ((S.1 6 0 2) = (2 : Int32)) (
    some ((1 : Int32), S)) (
    some ((0 : Int32), S)) := zeqi d 60 6 0 [some (zr 6 0)] [] S
set_option maxRecDepth 100000 in
theorem eT_isSign (d : Nat) (a1 : Int32) (S : ZS) : zT_isSign (d + 1) a1 S =
  zif ((S.1 6 0 2) = (3 : Int32)) (
    zg (zin (S.1 6 0 3) 1000) (
    zif ((S.1 41 0 (zx (S.1 6 0 3))) = a1) (
      some ((1 : Int32), S)) (
      some ((0 : Int32), S)))) (
    some ((0 : Int32), S)) := zeqi d 61 6 0 [some (zr 6 0), some (zi a1)] [] S
set_option maxRecDepth 100000 in
theorem eT_isWord (d : Nat) (o1 : Nat) (S : ZS) : zT_isWord (d + 1) o1 S =
  zcm (S.2.2.1 6 0 5) (
  zif ((S.2.2.1 6 0 5) = (some (12, o1))) (
    some ((1 : Int32), S)) (
    some ((0 : Int32), S))) := zeqi d 62 6 0 [some (zr 6 0), some (zr 12 o1)] [] S
set_option maxRecDepth 100000 in
theorem eT_isName (d : Nat)  (S : ZS) : zT_isName (d + 1)  S =
  zif ((S.1 6 0 2) = (1 : Int32)) (
    zif ((S.2.2.1 6 0 5) = none) (
      some ((1 : Int32), S)) (
      some ((0 : Int32), S))) (
    some ((0 : Int32), S)) := zeqi d 63 6 0 [some (zr 6 0)] [] S
set_option maxRecDepth 100000 in
theorem eT_value (d : Nat)  (S : ZS) : zT_value (d + 1)  S =
  zif ((S.2.2.1 6 0 5) = none) (
    some ((-1 : Int32), S)) (
    zder (S.2.2.1 6 0 5) 12 (fun i1 =>
    some ((zwv i1), S))) := zeqi d 64 6 0 [some (zr 6 0)] [] S
set_option maxRecDepth 100000 in
theorem eT_wordRead (d : Nat)  (S : ZS) : zT_wordRead (d + 1)  S =
  zT_wordRead_9 d (Int32.ofNat 13) (0 : Int32) S := zeqo d 65 6 0 [some (zr 6 0), none, none, none, none, none, none] [] S
set_option maxRecDepth 100000 in
theorem eT_wordRead_9 (d : Nat) (a2 : Int32) (a3 : Int32) (S : ZS) : zT_wordRead_9 d a2 a3 S =
  zif (a2 ≤ a3) (
    some (none, S)) (
    zg (zin a3 13) (
    zder (some (12, zx a3)) 12 (fun i1 =>
    (zS0_length_8abf5 d i1 S).bind (fun r2 =>
    (zci (zcall d) 1001 [zi (S.1 6 0 4), zi r2.1] r2.2).bind (fun r3 =>
    zT_wordRead_39 d a2 a3 (some (12, zx a3)) (0 : Int32) r3.1 r3.2))))) := zeqo d 65 6 9 [some (zr 6 0), some (zr 14 0), some (zi a2), some (zi a3), none, none, none] [] S
set_option maxRecDepth 100000 in
theorem eT_wordRead_39 (d : Nat) (a2 : Int32) (a3 : Int32) (a4 : Option ZR) (a5 : Int32) (a6 : Int32) (S : ZS) : zT_wordRead_39 d a2 a3 a4 a5 a6 S =
  zif (a6 ≤ a5) (
    zT_wordRead_77 d a2 a3 a4 a5 S) (
    zg (zin ((S.1 6 0 3) + a5) 1000) (
    zder a4 12 (fun i1 =>
    (zS0_charAt_5068e d i1 a5 S).bind (fun r2 =>
    zif ((S.1 41 0 (zx ((S.1 6 0 3) + a5))) = r2.1) (
      zT_wordRead_39 d a2 a3 a4 (a5 + (1 : Int32)) a6 r2.2) (
      zT_wordRead_77 d a2 a3 a4 a5 r2.2))))) := zeqo d 65 6 39 [some (zr 6 0), some (zr 14 0), some (zi a2), some (zi a3), some (zo a4), some (zi a5), some (zi a6)] [] S
set_option maxRecDepth 100000 in
theorem eT_wordRead_77 (d : Nat) (a2 : Int32) (a3 : Int32) (a4 : Option ZR) (a5 : Int32) (S : ZS) : zT_wordRead_77 d a2 a3 a4 a5 S =
  zif (a5 = (S.1 6 0 4)) (
    zder a4 12 (fun i1 =>
    (zS0_length_8abf5 d i1 S).bind (fun r2 =>
    zif (a5 = r2.1) (
      some (a4, r2.2)) (
      zT_wordRead_9 d a2 (a3 + (1 : Int32)) r2.2)))) (
    zT_wordRead_9 d a2 (a3 + (1 : Int32)) S) := zeqo d 65 6 77 [some (zr 6 0), some (zr 14 0), some (zi a2), some (zi a3), some (zo a4), some (zi a5), none] [] S
set_option maxRecDepth 100000 in
theorem eT_number (d : Nat)  (S : ZS) : zT_number (d + 1)  S =
  zT_number_4 d (0 : Int32) (0 : Int32) S := zeqi d 66 6 0 [some (zr 6 0), none, none] [] S
set_option maxRecDepth 100000 in
theorem eT_number_4 (d : Nat) (a1 : Int32) (a2 : Int32) (S : ZS) : zT_number_4 d a1 a2 S =
  zif ((S.1 6 0 4) ≤ a2) (
    some (a1, S)) (
    zg (zin ((S.1 6 0 3) + a2) 1000) (
    zT_number_4 d ((a1 * (10 : Int32)) + ((S.1 41 0 (zx ((S.1 6 0 3) + a2))) - (48 : Int32))) (a2 + (1 : Int32)) S)) := zeqi d 66 6 4 [some (zr 6 0), some (zi a1), some (zi a2)] [] S
set_option maxRecDepth 100000 in
theorem eT_letters (d : Nat)  (S : ZS) : zT_letters (d + 1)  S =
  zT_letters_4 d (0 : Int64) (0 : Int32) S := zeql d 67 6 0 [some (zr 6 0), none, none, none] [] S
set_option maxRecDepth 100000 in
theorem eT_letters_4 (d : Nat) (a1 : Int64) (a3 : Int32) (S : ZS) : zT_letters_4 d a1 a3 S =
  zif ((S.1 6 0 4) ≤ a3) (
    some (a1, S)) (
    zg (zin ((S.1 6 0 3) + a3) 1000) (
    zT_letters_4 d ((a1 * (32 : Int64)) + (((S.1 41 0 (zx ((S.1 6 0 3) + a3))) - (97 : Int32)) + (1 : Int32)).toInt64) (a3 + (1 : Int32)) S)) := zeql d 67 6 4 [some (zr 6 0), some (zl a1), none, some (zi a3)] [] S
set_option maxRecDepth 100000 in
theorem eF_readTape (d : Nat) (o0 : Nat) (S : ZS) : zF_readTape (d + 1) o0 S =
  (zT_rewind d ((zu (zu (zu (zu S.1 7 o0 1 (0 : Int32)) 7 o0 2 (0 : Int32)) 7 o0 8 (0 : Int32)) 7 o0 7 (0 : Int32)), S.2)).bind (fun r1 =>
  zF_readTape_31 d o0 (1 : Int32) (0 : Int32) r1) := zeqi d 68 7 0 [some (zr 7 o0), none, none, none] [] S
set_option maxRecDepth 100000 in
theorem eF_readTape_31 (d : Nat) (a0 : Nat) (a1 : Int32) (a2 : Int32) (S : ZS) : zF_readTape_31 d a0 a1 a2 S =
  zif ((16 : Int32) < a2) (
    some ((S.1 7 a0 1), S)) (
    zif (a1 = 0) (
      some ((S.1 7 a0 1), S)) (
      (zT_isAtEnd d S).bind (fun r1 =>
      zif (r1.1 = 0) (
        (zT_isWord d 6 r1.2).bind (fun r2 =>
        (zF_passFirst d a0 r2.2).bind (fun r3 =>
        zif (r3.1 = 0) (
          zF_readTape_95 d a0 a2 (0 : Int32) r3.2) (
          zif (r2.1 = 0) (
            (zF_readUnit d a0 r3.2).bind (fun r4 =>
            zif (r4.1 = 0) (
              zF_readTape_95 d a0 a2 (0 : Int32) r4.2) (
              zF_readTape_95 d a0 a2 (1 : Int32) r4.2))) (
            (zF_readLet d a0 r3.2).bind (fun r5 =>
            zif (r5.1 = 0) (
              zF_readTape_95 d a0 a2 (0 : Int32) r5.2) (
              zF_readTape_95 d a0 a2 (1 : Int32) r5.2))))))) (
        some ((r1.2.1 7 a0 1), r1.2))))) := zeqi d 68 7 31 [some (zr 7 a0), some (zi a1), some (zi a2), none] [] S
set_option maxRecDepth 100000 in
theorem eF_readTape_95 (d : Nat) (a0 : Nat) (a2 : Int32) (s0 : Int32) (S : ZS) : zF_readTape_95 d a0 a2 s0 S =
  zif (s0 = 0) (
    zF_readTape_31 d a0 s0 (a2 + (1 : Int32)) S) (
    zg (zin (S.1 7 a0 2) 16) (
    zF_readTape_31 d a0 s0 (a2 + (1 : Int32)) ((zu (zu S.1 44 a0 (zx (S.1 7 a0 2)) (S.1 7 a0 7)) 7 a0 2 (((zu S.1 44 a0 (zx (S.1 7 a0 2)) (S.1 7 a0 7)) 7 a0 2) + (1 : Int32))), S.2))) := zeqi d 68 7 95 [some (zr 7 a0), none, some (zi a2), none] [zi s0] S
set_option maxRecDepth 100000 in
theorem eF_passFirst (d : Nat) (o0 : Nat) (S : ZS) : zF_passFirst (d + 1) o0 S =
  (zT_isWord d 6 S).bind (fun r1 =>
  zif (r1.1 = 0) (
    (zT_isWord d 7 r1.2).bind (fun r2 =>
    zif (r2.1 = 0) (
      (zF_fail d o0 (1 : Int32) r2.2).bind (fun r3 =>
      zgb r3.1 (some (r3.1, r3.2)))) (
      zif ((r2.2.1 7 o0 2) = (16 : Int32)) (
        (zF_fail d o0 (5 : Int32) r2.2).bind (fun r4 =>
        zgb r4.1 (some (r4.1, r4.2)))) (
        (zT_next d r2.2).bind (fun r5 =>
        some ((1 : Int32), r5)))))) (
    zif ((r1.2.1 7 o0 2) = (16 : Int32)) (
      (zF_fail d o0 (5 : Int32) r1.2).bind (fun r6 =>
      zgb r6.1 (some (r6.1, r6.2)))) (
      (zT_next d r1.2).bind (fun r7 =>
      some ((1 : Int32), r7))))) := zeqi d 69 7 0 [some (zr 7 o0)] [] S
set_option maxRecDepth 100000 in
theorem eF_readLet (d : Nat) (o0 : Nat) (S : ZS) : zF_readLet (d + 1) o0 S =
  (zT_isName d S).bind (fun r1 =>
  zif (r1.1 = 0) (
    (zF_fail d o0 (1 : Int32) r1.2).bind (fun r2 =>
    zgb r2.1 (some (r2.1, r2.2)))) (
    (zT_letters d r1.2).bind (fun r3 =>
    (zF_slotOf d o0 r3.1 r3.2).bind (fun r4 =>
    zif (r4.1 = (-1 : Int32)) (
      zif ((r4.2.1 7 o0 8) = (6 : Int32)) (
        (zF_fail d o0 (5 : Int32) r4.2).bind (fun r5 =>
        zgb r5.1 (some (r5.1, r5.2)))) (
        (zT_next d r4.2).bind (fun r6 =>
        zg (zin (r6.1 7 o0 2) 16) (
        (zF_passSign d o0 (61 : Int32) ((zu r6.1 42 o0 (zx (r6.1 7 o0 2)) (-1 : Int32)), r6.2)).bind (fun r7 =>
        zif (r7.1 = 0) (
          some ((0 : Int32), r7.2)) (
          (zF_readOperations d o0 (0 : Int32) (0 : Int32) r7.2).bind (fun r8 =>
          zif (r8.1 = 0) (
            some ((0 : Int32), r8.2)) (
            (zF_passSign d o0 (59 : Int32) r8.2).bind (fun r9 =>
            zif (r9.1 = 0) (
              some ((0 : Int32), r9.2)) (
              zg (zin (r9.2.1 7 o0 8) 6) (
              some ((1 : Int32), ((zu r9.2.1 7 o0 8 ((r9.2.1 7 o0 8) + (1 : Int32))), (zu r9.2.2.1 46 o0 (zx (r9.2.1 7 o0 8)) r3.1), r9.2.2.2))))))))))))) (
      (zF_fail d o0 (3 : Int32) r4.2).bind (fun r10 =>
      zgb r10.1 (some (r10.1, r10.2)))))))) := zeqi d 70 7 0 [some (zr 7 o0), none, none] [] S
set_option maxRecDepth 100000 in
theorem eF_readUnit (d : Nat) (o0 : Nat) (S : ZS) : zF_readUnit (d + 1) o0 S =
  (zF_isNumberWithin d o0 (0 : Int32) (99 : Int32) S).bind (fun r1 =>
  zif (r1.1 = 0) (
    some ((0 : Int32), r1.2)) (
    (zT_number d r1.2).bind (fun r2 =>
    zg (zin (r1.2.1 7 o0 2) 16) (
    (zT_next d ((zu r2.2.1 42 o0 (zx (r1.2.1 7 o0 2)) r2.1), r2.2.2)).bind (fun r3 =>
    (zF_passWord d o0 8 r3).bind (fun r4 =>
    zif (r4.1 = 0) (
      some ((0 : Int32), r4.2)) (
      (zF_isNumberWithin d o0 (30 : Int32) (9999 : Int32) r4.2).bind (fun r5 =>
      zif (r5.1 = 0) (
        some ((0 : Int32), r5.2)) (
        (zT_number d r5.2).bind (fun r6 =>
        zg (zin (r5.2.1 7 o0 2) 16) (
        (zT_next d ((zu r6.2.1 43 o0 (zx (r5.2.1 7 o0 2)) r6.1), r6.2.2)).bind (fun r7 =>
        (zF_passWord d o0 9 r7).bind (fun r8 =>
        zif (r8.1 = 0) (
          some ((0 : Int32), r8.2)) (
          (zF_readOperations d o0 (0 : Int32) (0 : Int32) r8.2).bind (fun r9 =>
          zif (r9.1 = 0) (
            some ((0 : Int32), r9.2)) (
            (zF_passSign d o0 (59 : Int32) r9.2).bind (fun r10 =>
            zif (r10.1 = 0) (
              some ((0 : Int32), r10.2)) (
              some ((1 : Int32), r10.2))))))))))))))))))) := zeqi d 71 7 0 [some (zr 7 o0)] [] S
set_option maxRecDepth 100000 in
theorem eF_fail (d : Nat) (o0 : Nat) (a1 : Int32) (S : ZS) : zF_fail (d + 1) o0 a1 S =
  some ((0 : Int32), ((zu S.1 7 o0 1 (a1 + ((16 : Int32) * (S.1 6 0 3)))), S.2)) := zeqi d 72 7 0 [some (zr 7 o0), some (zi a1)] [] S
set_option maxRecDepth 100000 in
theorem eF_passSign (d : Nat) (o0 : Nat) (a1 : Int32) (S : ZS) : zF_passSign (d + 1) o0 a1 S =
  (zT_isSign d a1 S).bind (fun r1 =>
  zif (r1.1 = 0) (
    (zF_fail d o0 (1 : Int32) r1.2).bind (fun r2 =>
    zgb r2.1 (some (r2.1, r2.2)))) (
    (zT_next d r1.2).bind (fun r3 =>
    some ((1 : Int32), r3)))) := zeqi d 73 7 0 [some (zr 7 o0), some (zi a1)] [] S
set_option maxRecDepth 100000 in
theorem eF_passWord (d : Nat) (o0 : Nat) (o1 : Nat) (S : ZS) : zF_passWord (d + 1) o0 o1 S =
  (zT_isWord d o1 S).bind (fun r1 =>
  zif (r1.1 = 0) (
    (zF_fail d o0 (1 : Int32) r1.2).bind (fun r2 =>
    zgb r2.1 (some (r2.1, r2.2)))) (
    (zT_next d r1.2).bind (fun r3 =>
    some ((1 : Int32), r3)))) := zeqi d 74 7 0 [some (zr 7 o0), some (zr 12 o1)] [] S
set_option maxRecDepth 100000 in
theorem eF_isNumberWithin (d : Nat) (o0 : Nat) (a1 : Int32) (a2 : Int32) (S : ZS) : zF_isNumberWithin (d + 1) o0 a1 a2 S =
  (zT_isNumber d S).bind (fun r1 =>
  zif (r1.1 = 0) (
    (zF_fail d o0 (1 : Int32) r1.2).bind (fun r2 =>
    zgb r2.1 (some (r2.1, r2.2)))) (
    (zT_number d r1.2).bind (fun r3 =>
    zif (r3.1 < a1) (
      (zF_fail d o0 (4 : Int32) r3.2).bind (fun r4 =>
      zif (r4.1 = 0) (
        some ((0 : Int32), r4.2)) (
        some ((1 : Int32), r4.2)))) (
      (zT_number d r3.2).bind (fun r5 =>
      zif (r5.1 ≤ a2) (
        some ((1 : Int32), r5.2)) (
        (zF_fail d o0 (4 : Int32) r5.2).bind (fun r6 =>
        zif (r6.1 = 0) (
          some ((0 : Int32), r6.2)) (
          some ((1 : Int32), r6.2))))))))) := zeqi d 75 7 0 [some (zr 7 o0), some (zi a1), some (zi a2)] [] S
set_option maxRecDepth 100000 in
theorem eF_slotOf (d : Nat) (o0 : Nat) (w1 : Int64) (S : ZS) : zF_slotOf (d + 1) o0 w1 S =
  zF_slotOf_2 d o0 w1 (0 : Int32) S := zeqi d 76 7 0 [some (zr 7 o0), some (zl w1), none, none] [] S
set_option maxRecDepth 100000 in
theorem eF_slotOf_2 (d : Nat) (a0 : Nat) (a1 : Int64) (a3 : Int32) (S : ZS) : zF_slotOf_2 d a0 a1 a3 S =
  zif ((S.1 7 a0 8) ≤ a3) (
    some ((-1 : Int32), S)) (
    zg (zin a3 6) (
    zif ((lg_cmp (S.2.1 46 a0 (zx a3)) a1) = 0) (
      some (a3, S)) (
      zF_slotOf_2 d a0 a1 (a3 + (1 : Int32)) S))) := zeqi d 76 7 2 [some (zr 7 a0), some (zl a1), none, some (zi a3)] [] S
set_option maxRecDepth 100000 in
theorem eF_readOperations (d : Nat) (o0 : Nat) (a1 : Int32) (a2 : Int32) (S : ZS) : zF_readOperations (d + 1) o0 a1 a2 S =
  zif (a1 < (4 : Int32)) (
    (zF_readOperations d o0 (a1 + (1 : Int32)) a2 S).bind (fun r1 =>
    zif (r1.1 = 0) (
      some ((0 : Int32), r1.2)) (
      zif (a1 = (1 : Int32)) (
        (zF_operationAt d o0 a1 r1.2).bind (fun r2 =>
        zF_readOperations_47 d o0 a1 a2 (1 : Int32) r2.1 (0 : Int32) r2.2)) (
        (zF_operationAt d o0 a1 r1.2).bind (fun r3 =>
        zF_readOperations_47 d o0 a1 a2 (1000 : Int32) r3.1 (0 : Int32) r3.2))))) (
    (zF_readPart d o0 a2 S).bind (fun r4 =>
    zgb r4.1 (some (r4.1, r4.2)))) := zeqi d 77 7 0 [some (zr 7 o0), some (zi a1), some (zi a2), none, none, none] [] S
set_option maxRecDepth 100000 in
theorem eF_readOperations_47 (d : Nat) (a0 : Nat) (a1 : Int32) (a2 : Int32) (a3 : Int32) (a4 : Int32) (a5 : Int32) (S : ZS) : zF_readOperations_47 d a0 a1 a2 a3 a4 a5 S =
  zif (a3 ≤ a5) (
    some ((1 : Int32), S)) (
    zif (a4 = (-1 : Int32)) (
      some ((1 : Int32), S)) (
      (zT_next d S).bind (fun r1 =>
      (zF_readOperations d a0 (a1 + (1 : Int32)) a2 r1).bind (fun r2 =>
      zif (r2.1 = 0) (
        some ((0 : Int32), r2.2)) (
        (zF_put d a0 a4 r2.2).bind (fun r3 =>
        (zF_operationAt d a0 a1 r3).bind (fun r4 =>
        zF_readOperations_47 d a0 a1 a2 a3 r4.1 (a5 + (1 : Int32)) r4.2))))))) := zeqi d 77 7 47 [some (zr 7 a0), some (zi a1), some (zi a2), some (zi a3), some (zi a4), some (zi a5)] [] S
set_option maxRecDepth 100000 in
theorem eF_operationAt (d : Nat) (o0 : Nat) (a1 : Int32) (S : ZS) : zF_operationAt (d + 1) o0 a1 S =
  zif (a1 = (0 : Int32)) (
    (zT_isWord d 10 S).bind (fun r1 =>
    zif (r1.1 = 0) (
      (zT_isWord d 11 r1.2).bind (fun r2 =>
      zif (r2.1 = 0) (
        some ((-1 : Int32), r2.2)) (
        some ((30002 : Int32), r2.2)))) (
      some ((30001 : Int32), r1.2)))) (
  zif (a1 = (1 : Int32)) (
    (zT_isSign d (60 : Int32) S).bind (fun r3 =>
    zif (r3.1 = 0) (
      (zT_isSign d (61 : Int32) r3.2).bind (fun r4 =>
      zif (r4.1 = 0) (
        some ((-1 : Int32), r4.2)) (
        some ((30004 : Int32), r4.2)))) (
      some ((30003 : Int32), r3.2)))) (
  zif (a1 = (2 : Int32)) (
    (zT_isSign d (43 : Int32) S).bind (fun r5 =>
    zif (r5.1 = 0) (
      (zT_isSign d (45 : Int32) r5.2).bind (fun r6 =>
      zif (r6.1 = 0) (
        some ((-1 : Int32), r6.2)) (
        some ((30006 : Int32), r6.2)))) (
      some ((30005 : Int32), r5.2)))) (
  (zT_isSign d (42 : Int32) S).bind (fun r7 =>
  zif (r7.1 = 0) (
    some ((-1 : Int32), r7.2)) (
    some ((30007 : Int32), r7.2)))))) := zeqi d 78 7 0 [some (zr 7 o0), some (zi a1)] [] S
set_option maxRecDepth 100000 in
theorem eF_readPart (d : Nat) (o0 : Nat) (a1 : Int32) (S : ZS) : zF_readPart (d + 1) o0 a1 S =
  (zT_value d S).bind (fun r1 =>
  (zT_isName d r1.2).bind (fun r2 =>
  (zT_isWord d 12 r2.2).bind (fun r3 =>
  (zT_isSign d (40 : Int32) r3.2).bind (fun r4 =>
  zif (r2.1 = 0) (
    zif (r3.1 = 0) (
      zif (r4.1 = 0) (
        zif (r1.1 = (-1 : Int32)) (
          (zT_isNumber d r4.2).bind (fun r5 =>
          zif (r5.1 = 0) (
            (zF_fail d o0 (1 : Int32) r5.2).bind (fun r6 =>
            zgb r6.1 (some (r6.1, r6.2)))) (
            zF_readPart_74 d o0 a1 r1.1 r2.1 r3.1 r4.1 r5.2))) (
          zF_readPart_74 d o0 a1 r1.1 r2.1 r3.1 r4.1 r4.2)) (
        zF_readPart_74 d o0 a1 r1.1 r2.1 r3.1 r4.1 r4.2)) (
      zF_readPart_74 d o0 a1 r1.1 r2.1 r3.1 r4.1 r4.2)) (
    zF_readPart_74 d o0 a1 r1.1 r2.1 r3.1 r4.1 r4.2))))) := zeqi d 79 7 0 [some (zr 7 o0), some (zi a1), none, none, none, none, none] [] S
set_option maxRecDepth 100000 in
theorem eF_readPart_74 (d : Nat) (a0 : Nat) (a1 : Int32) (a2 : Int32) (a3 : Int32) (a4 : Int32) (a5 : Int32) (S : ZS) : zF_readPart_74 d a0 a1 a2 a3 a4 a5 S =
  zif (a3 = 0) (
    zif (a3 = 0) (
      zF_readPart_111 d a0 a1 a2 a3 a4 a5 (-1 : Int32) S) (
      zif ((-1 : Int32) = (-1 : Int32)) (
        (zF_fail d a0 (2 : Int32) S).bind (fun r1 =>
        zgb r1.1 (some (r1.1, r1.2)))) (
        zF_readPart_111 d a0 a1 a2 a3 a4 a5 (-1 : Int32) S))) (
    (zT_letters d S).bind (fun r2 =>
    (zF_slotOf d a0 r2.1 r2.2).bind (fun r3 =>
    zif (a3 = 0) (
      zF_readPart_111 d a0 a1 a2 a3 a4 a5 r3.1 r3.2) (
      zif (r3.1 = (-1 : Int32)) (
        (zF_fail d a0 (2 : Int32) r3.2).bind (fun r4 =>
        zgb r4.1 (some (r4.1, r4.2)))) (
        zF_readPart_111 d a0 a1 a2 a3 a4 a5 r3.1 r3.2))))) := zeqi d 79 7 74 [some (zr 7 a0), some (zi a1), some (zi a2), some (zi a3), some (zi a4), some (zi a5), none] [] S
set_option maxRecDepth 100000 in
theorem eF_readPart_111 (d : Nat) (a0 : Nat) (a1 : Int32) (a2 : Int32) (a3 : Int32) (a4 : Int32) (a5 : Int32) (a6 : Int32) (S : ZS) : zF_readPart_111 d a0 a1 a2 a3 a4 a5 a6 S =
  zif (a1 < (5 : Int32)) (
    zif (a4 = 0) (
      zif (a5 = 0) (
        zif (a3 = 0) (
          zif (a2 = (-1 : Int32)) (
            (zT_number d S).bind (fun r1 =>
            (zF_put d a0 r1.1 r1.2).bind (fun r2 =>
            (zT_next d r2).bind (fun r3 =>
            some ((1 : Int32), r3))))) (
            (zF_put d a0 ((10000 : Int32) + a2) S).bind (fun r4 =>
            (zT_next d r4).bind (fun r5 =>
            some ((1 : Int32), r5))))) (
          (zF_put d a0 ((20000 : Int32) + a6) S).bind (fun r6 =>
          (zT_next d r6).bind (fun r7 =>
          some ((1 : Int32), r7))))) (
        (zF_readWithin d a0 a4 (a1 + (1 : Int32)) S).bind (fun r8 =>
        zgb r8.1 (some (r8.1, r8.2))))) (
      (zF_readWithin d a0 a4 (a1 + (1 : Int32)) S).bind (fun r9 =>
      zgb r9.1 (some (r9.1, r9.2))))) (
    (zF_fail d a0 (5 : Int32) S).bind (fun r10 =>
    zgb r10.1 (some (r10.1, r10.2)))) := zeqi d 79 7 111 [some (zr 7 a0), some (zi a1), some (zi a2), some (zi a3), some (zi a4), some (zi a5), some (zi a6)] [] S
set_option maxRecDepth 100000 in
theorem eF_readWithin (d : Nat) (o0 : Nat) (a1 : Int32) (a2 : Int32) (S : ZS) : zF_readWithin (d + 1) o0 a1 a2 S =
  (zT_next d S).bind (fun r1 =>
  zif (a1 = 0) (
    (zF_readOperations d o0 (0 : Int32) a2 r1).bind (fun r2 =>
    zif (r2.1 = 0) (
      some ((0 : Int32), r2.2)) (
      (zF_passSign d o0 (41 : Int32) r2.2).bind (fun r3 =>
      zif (r3.1 = 0) (
        some ((0 : Int32), r3.2)) (
        some ((1 : Int32), r3.2)))))) (
    (zF_readPart d o0 a2 r1).bind (fun r4 =>
    zif (r4.1 = 0) (
      some ((0 : Int32), r4.2)) (
      (zF_put d o0 (30000 : Int32) r4.2).bind (fun r5 =>
      some ((1 : Int32), r5)))))) := zeqi d 80 7 0 [some (zr 7 o0), some (zi a1), some (zi a2)] [] S
set_option maxRecDepth 100000 in
theorem eF_put (d : Nat) (o0 : Nat) (a1 : Int32) (S : ZS) : zF_put (d + 1) o0 a1 S =
  zif ((Int32.ofNat 1000) ≤ (S.1 7 o0 7)) (
    some S) (
    zg (zin (S.1 7 o0 7) 1000) (
    some ((zu (zu S.1 45 o0 (zx (S.1 7 o0 7)) a1) 7 o0 7 (((zu S.1 45 o0 (zx (S.1 7 o0 7)) a1) 7 o0 7) + (1 : Int32))), S.2))) := zeqv d 81 7 0 [some (zr 7 o0), some (zi a1)] [] S
set_option maxRecDepth 100000 in
theorem eF_unitsOf (d : Nat) (o0 : Nat) (a1 : Int32) (a2 : Int32) (a3 : Int32) (a4 : Int32) (S : ZS) : zF_unitsOf (d + 1) o0 a1 a2 a3 a4 S =
  zg (zin (zwv 0) 6) (
  zg (zin (zwv 5) 6) (
  zF_unitsOf_34 d o0 a1 a2 (0 : Int32) a1 (0 : Int32) ((zu (zu S.1 48 o0 (zx (zwv 0)) a3) 48 o0 (zx (zwv 5)) a4), S.2))) := zeqi d 82 7 0 [some (zr 7 o0), some (zi a1), some (zi a2), some (zi a3), some (zi a4), none, none, none, none] [] S
set_option maxRecDepth 100000 in
theorem eF_unitsOf_34 (d : Nat) (a0 : Nat) (a1 : Int32) (a2 : Int32) (a5 : Int32) (a6 : Int32) (a7 : Int32) (S : ZS) : zF_unitsOf_34 d a0 a1 a2 a5 a6 a7 S =
  zif ((999999 : Int32) < a7) (
    some (a5, S)) (
    zif (a2 ≤ a6) (
      some (a5, S)) (
      zg (zin (zwv 1) 6) (
      zg (zin (zwv 2) 6) (
      zg (zin (zwv 3) 6) (
      zg (zin (zwv 4) 6) (
      (zF_firstMet d a0 ((zu (zu (zu (zu S.1 48 a0 (zx (zwv 1)) ((a6 / (3600 : Int32)) - (a6 / (3600 : Int32)) / (24 : Int32) * (24 : Int32))) 48 a0 (zx (zwv 2)) ((a6 / (86400 : Int32)) - (a6 / (86400 : Int32)) / (7 : Int32) * (7 : Int32))) 48 a0 (zx (zwv 3)) (a6 - a1)) 48 a0 (zx (zwv 4)) a5), S.2)).bind (fun r1 =>
      zif (r1.1 = (-1 : Int32)) (
        zF_unitsOf_139 d a0 a1 a2 a6 a7 r1.1 (0 : Int32) a5 r1.2) (
        zg (zin r1.1 16) (
        zF_unitsOf_139 d a0 a1 a2 a6 a7 r1.1 (r1.2.1 42 a0 (zx r1.1)) a5 r1.2))))))))) := zeqi d 82 7 34 [some (zr 7 a0), some (zi a1), some (zi a2), none, none, some (zi a5), some (zi a6), some (zi a7), none] [] S
set_option maxRecDepth 100000 in
theorem eF_unitsOf_139 (d : Nat) (a0 : Nat) (a1 : Int32) (a2 : Int32) (a6 : Int32) (a7 : Int32) (a8 : Int32) (s0 : Int32) (s1 : Int32) (S : ZS) : zF_unitsOf_139 d a0 a1 a2 a6 a7 a8 s0 s1 S =
  zif (a8 = (-1 : Int32)) (
    zF_unitsOf_34 d a0 a1 a2 (s1 + s0) (a6 + (60 : Int32)) (a7 + (1 : Int32)) S) (
    zg (zin a8 16) (
    zF_unitsOf_34 d a0 a1 a2 (s1 + s0) (a6 + (S.1 43 a0 (zx a8))) (a7 + (1 : Int32)) S)) := zeqi d 82 7 139 [some (zr 7 a0), some (zi a1), some (zi a2), none, none, none, some (zi a6), some (zi a7), some (zi a8)] [zi s0, zi s1] S
set_option maxRecDepth 100000 in
theorem eF_firstMet (d : Nat) (o0 : Nat) (S : ZS) : zF_firstMet (d + 1) o0 S =
  zF_firstMet_6 d o0 (0 : Int32) (0 : Int32) (0 : Int32) S := zeqi d 83 7 0 [some (zr 7 o0), none, none, none, none] [] S
set_option maxRecDepth 100000 in
theorem eF_firstMet_6 (d : Nat) (a0 : Nat) (a1 : Int32) (a2 : Int32) (a3 : Int32) (S : ZS) : zF_firstMet_6 d a0 a1 a2 a3 S =
  zif ((S.1 7 a0 2) ≤ a3) (
    some ((-1 : Int32), S)) (
    zg (zin a3 16) (
    (zF_resultOf d a0 a1 (S.1 44 a0 (zx a3)) S).bind (fun r1 =>
    zg (zin a3 16) (
    zg (zin a3 16) (
    zif ((r1.2.1 42 a0 (zx a3)) = (-1 : Int32)) (
      zF_firstMet_51 d a0 (r1.2.1 44 a0 (zx a3)) a2 a3 r1.1 r1.2) (
      zif (r1.1 = 0) (
        zF_firstMet_51 d a0 (r1.2.1 44 a0 (zx a3)) a2 a3 r1.1 r1.2) (
        some (a3, r1.2)))))))) := zeqi d 83 7 6 [some (zr 7 a0), some (zi a1), some (zi a2), some (zi a3), none] [] S
set_option maxRecDepth 100000 in
theorem eF_firstMet_51 (d : Nat) (a0 : Nat) (a1 : Int32) (a2 : Int32) (a3 : Int32) (a4 : Int32) (S : ZS) : zF_firstMet_51 d a0 a1 a2 a3 a4 S =
  zg (zin a3 16) (
  zif ((S.1 42 a0 (zx a3)) = (-1 : Int32)) (
    zif ((6 : Int32) ≤ a2) (
      zF_firstMet_6 d a0 a1 a2 (a3 + (1 : Int32)) S) (
      zg (zin a2 6) (
      zF_firstMet_6 d a0 a1 (a2 + (1 : Int32)) (a3 + (1 : Int32)) ((zu S.1 47 a0 (zx a2) a4), S.2)))) (
    zF_firstMet_6 d a0 a1 a2 (a3 + (1 : Int32)) S)) := zeqi d 83 7 51 [some (zr 7 a0), some (zi a1), some (zi a2), some (zi a3), some (zi a4)] [] S
set_option maxRecDepth 100000 in
theorem eF_resultOf (d : Nat) (o0 : Nat) (a1 : Int32) (a2 : Int32) (S : ZS) : zF_resultOf (d + 1) o0 a1 a2 S =
  zF_resultOf_5 d o0 a2 (0 : Int32) a1 S := zeqi d 84 7 0 [some (zr 7 o0), some (zi a1), some (zi a2), none, none, none] [] S
set_option maxRecDepth 100000 in
theorem eF_resultOf_5 (d : Nat) (a0 : Nat) (a2 : Int32) (a3 : Int32) (a4 : Int32) (S : ZS) : zF_resultOf_5 d a0 a2 a3 a4 S =
  zif (a2 ≤ a4) (
    zg (zin (0 : Int32) 25) (
    some ((S.1 49 a0 (zx (0 : Int32))), S))) (
    zg (zin a4 1000) (
    zif ((30000 : Int32) ≤ (S.1 45 a0 (zx a4))) (
      zF_resultOf_55 d a0 a2 a3 a4 (S.1 45 a0 (zx a4)) S) (
      zif ((Int32.ofNat 25) ≤ a3) (
        zF_resultOf_55 d a0 a2 a3 a4 (S.1 45 a0 (zx a4)) S) (
        (zF_operand d a0 (S.1 45 a0 (zx a4)) S).bind (fun r1 =>
        zg (zin a3 25) (
        zF_resultOf_5 d a0 a2 (a3 + (1 : Int32)) (a4 + (1 : Int32)) ((zu r1.2.1 49 a0 (zx a3) r1.1), r1.2.2))))))) := zeqi d 84 7 5 [some (zr 7 a0), none, some (zi a2), some (zi a3), some (zi a4), none] [] S
set_option maxRecDepth 100000 in
theorem eF_resultOf_55 (d : Nat) (a0 : Nat) (a2 : Int32) (a3 : Int32) (a4 : Int32) (a5 : Int32) (S : ZS) : zF_resultOf_55 d a0 a2 a3 a4 a5 S =
  zif (a5 = (30000 : Int32)) (
    zif (a3 < (1 : Int32)) (
      zF_resultOf_95 d a0 a2 a3 a4 a5 S) (
      zg (zin (a3 - (1 : Int32)) 25) (
      zif ((S.1 49 a0 (zx (a3 - (1 : Int32)))) = 0) (
        zg (zin (a3 - (1 : Int32)) 25) (
        zF_resultOf_5 d a0 a2 a3 (a4 + (1 : Int32)) ((zu S.1 49 a0 (zx (a3 - (1 : Int32))) (1 : Int32)), S.2))) (
        zg (zin (a3 - (1 : Int32)) 25) (
        zF_resultOf_5 d a0 a2 a3 (a4 + (1 : Int32)) ((zu S.1 49 a0 (zx (a3 - (1 : Int32))) (0 : Int32)), S.2)))))) (
    zF_resultOf_95 d a0 a2 a3 a4 a5 S) := zeqi d 84 7 55 [some (zr 7 a0), none, some (zi a2), some (zi a3), some (zi a4), some (zi a5)] [] S
set_option maxRecDepth 100000 in
theorem eF_resultOf_95 (d : Nat) (a0 : Nat) (a2 : Int32) (a3 : Int32) (a4 : Int32) (a5 : Int32) (S : ZS) : zF_resultOf_95 d a0 a2 a3 a4 a5 S =
  zif (a5 ≤ (30000 : Int32)) (
    zF_resultOf_5 d a0 a2 a3 (a4 + (1 : Int32)) S) (
    zif (a3 < (2 : Int32)) (
      zF_resultOf_5 d a0 a2 a3 (a4 + (1 : Int32)) S) (
      zg (zin ((a3 + (-1 : Int32)) - (1 : Int32)) 25) (
      zg (zin (a3 + (-1 : Int32)) 25) (
      (zF_joined d a5 (S.1 49 a0 (zx ((a3 + (-1 : Int32)) - (1 : Int32)))) (S.1 49 a0 (zx (a3 + (-1 : Int32)))) S).bind (fun r1 =>
      zg (zin ((a3 + (-1 : Int32)) - (1 : Int32)) 25) (
      zF_resultOf_5 d a0 a2 (a3 + (-1 : Int32)) (a4 + (1 : Int32)) ((zu r1.2.1 49 a0 (zx ((a3 + (-1 : Int32)) - (1 : Int32))) r1.1), r1.2.2))))))) := zeqi d 84 7 95 [some (zr 7 a0), none, some (zi a2), some (zi a3), some (zi a4), some (zi a5)] [] S
set_option maxRecDepth 100000 in
theorem eF_operand (d : Nat) (o0 : Nat) (a1 : Int32) (S : ZS) : zF_operand (d + 1) o0 a1 S =
  zif (a1 < (20000 : Int32)) (
    zif (a1 < (10000 : Int32)) (
      some (a1, S)) (
      zg (zin (a1 - (10000 : Int32)) 6) (
      some ((S.1 48 o0 (zx (a1 - (10000 : Int32)))), S)))) (
    zg (zin (a1 - (20000 : Int32)) 6) (
    some ((S.1 47 o0 (zx (a1 - (20000 : Int32)))), S))) := zeqi d 85 7 0 [some (zr 7 o0), some (zi a1)] [] S
set_option maxRecDepth 100000 in
theorem eF_joined (d : Nat) (a0 : Int32) (a1 : Int32) (a2 : Int32) (S : ZS) : zF_joined (d + 1) a0 a1 a2 S =
  zif (a0 = (30001 : Int32)) (
    zif (a1 = 0) (
      some ((0 : Int32), S)) (
      zif (a2 = 0) (
        some ((0 : Int32), S)) (
        some ((1 : Int32), S)))) (
  zif (a0 = (30002 : Int32)) (
    zif (a1 = 0) (
      zif (a2 = 0) (
        some ((0 : Int32), S)) (
        some ((1 : Int32), S))) (
      some ((1 : Int32), S))) (
  zif (a0 = (30003 : Int32)) (
    zif (a2 ≤ a1) (
      some ((0 : Int32), S)) (
      some ((1 : Int32), S))) (
  zif (a0 = (30004 : Int32)) (
    zif (a1 = a2) (
      some ((1 : Int32), S)) (
      some ((0 : Int32), S))) (
  zif (a0 = (30005 : Int32)) (
    some ((a1 + a2), S)) (
  zif (a0 = (30006 : Int32)) (
    some ((a1 - a2), S)) (
  some ((a1 * a2), S))))))) := zeqi d 86 7 0 [some (zi a0), some (zi a1), some (zi a2)] [] S
set_option maxRecDepth 100000 in
theorem eB_note (d : Nat) (o1 : Nat) (a2 : Int32) (S : ZS) : zB_note (d + 1) o1 a2 S =
  zif ((S.1 8 0 1) = (60 : Int32)) (
    some S) (
    zB_note_15 d o1 a2 (0 : Int32) (0 : Int32) S) := zeqv d 87 8 0 [some (zr 8 0), some (zr 2 o1), some (zi a2), none, none] [] S
set_option maxRecDepth 100000 in
theorem eB_note_15 (d : Nat) (a1 : Nat) (a2 : Int32) (a3 : Int32) (a4 : Int32) (S : ZS) : zB_note_15 d a1 a2 a3 a4 S =
  zif ((S.1 2 a1 5) ≤ a4) (
    zB_note_77 d a2 a3 S) (
    zif ((6 : Int32) ≤ a3) (
      zB_note_77 d a2 a3 S) (
      zg (zin a4 97) (
      (zP_isSwitch d (S.1 29 a1 (zx a4)) S).bind (fun r1 =>
      zif (r1.1 = 0) (
        zB_note_15 d a1 a2 a3 (a4 + (1 : Int32)) r1.2) (
        zg (zin a4 97) (
        zg (zin (((r1.2.1 8 0 1) * (6 : Int32)) + a3) 360) (
        zB_note_15 d a1 a2 (a3 + (1 : Int32)) (a4 + (1 : Int32)) ((zu r1.2.1 50 0 (zx (((r1.2.1 8 0 1) * (6 : Int32)) + a3)) (r1.2.1 29 a1 (zx a4))), r1.2.2)))))))) := zeqv d 87 8 15 [some (zr 8 0), some (zr 2 a1), some (zi a2), some (zi a3), some (zi a4)] [] S
set_option maxRecDepth 100000 in
theorem eB_note_77 (d : Nat) (a2 : Int32) (a3 : Int32) (S : ZS) : zB_note_77 d a2 a3 S =
  zg (zin (S.1 8 0 1) 60) (
  zg (zin ((zu S.1 51 0 (zx (S.1 8 0 1)) a3) 8 0 1) 60) (
  zg (zbl a2) (
  some ((zu (zu (zu S.1 51 0 (zx (S.1 8 0 1)) a3) 52 0 (zx ((zu S.1 51 0 (zx (S.1 8 0 1)) a3) 8 0 1)) a2) 8 0 1 (((zu (zu S.1 51 0 (zx (S.1 8 0 1)) a3) 52 0 (zx ((zu S.1 51 0 (zx (S.1 8 0 1)) a3) 8 0 1)) a2) 8 0 1) + (1 : Int32))), S.2)))) := zeqv d 87 8 77 [some (zr 8 0), none, some (zi a2), some (zi a3), none] [] S
set_option maxRecDepth 100000 in
theorem eB_fewest (d : Nat)  (S : ZS) : zB_fewest (d + 1)  S =
  (zcv (zcall d) 1002 [zr 57 0, zi (0 : Int32)] ((zu S.1 8 0 9 (0 : Int32)), S.2)).bind (fun r1 =>
  (zB_markSound d r1).bind (fun r2 =>
  zB_fewest_19 d (0 : Int32) r2)) := zeqi d 88 8 0 [some (zr 8 0), none] [] S
set_option maxRecDepth 100000 in
theorem eB_fewest_19 (d : Nat) (a1 : Int32) (S : ZS) : zB_fewest_19 d a1 S =
  zif ((3 : Int32) < a1) (
    some ((-1 : Int32), S)) (
    (zB_choose d (0 : Int32) a1 S).bind (fun r1 =>
    zif ((r1.1 8 0 9) ≤ 0) (
      zB_fewest_19 d (a1 + (1 : Int32)) r1) (
      some (a1, r1)))) := zeqi d 88 8 19 [some (zr 8 0), some (zi a1)] [] S
set_option maxRecDepth 100000 in
theorem eB_isInAllSets (d : Nat) (a1 : Int32) (S : ZS) : zB_isInAllSets (d + 1) a1 S =
  zif ((S.1 8 0 9) ≤ 0) (
    some ((0 : Int32), S)) (
    zg (zin a1 96) (
    zif ((S.1 57 0 (zx a1)) = (S.1 8 0 9)) (
      some ((1 : Int32), S)) (
      some ((0 : Int32), S)))) := zeqi d 89 8 0 [some (zr 8 0), some (zi a1)] [] S
set_option maxRecDepth 100000 in
theorem eB_markSound (d : Nat)  (S : ZS) : zB_markSound (d + 1)  S =
  zB_markSound_2 d (0 : Int32) S := zeqv d 90 8 0 [some (zr 8 0), none, none] [] S
set_option maxRecDepth 100000 in
theorem eB_markSound_2 (d : Nat) (a1 : Int32) (S : ZS) : zB_markSound_2 d a1 S =
  zif ((96 : Int32) ≤ a1) (
    zB_markSound_23 d (0 : Int32) S) (
    zg (zin a1 96) (
    zg (zbl (0 : Int32)) (
    zB_markSound_2 d (a1 + (1 : Int32)) ((zu S.1 53 0 (zx a1) (0 : Int32)), S.2)))) := zeqv d 90 8 2 [some (zr 8 0), some (zi a1), none] [] S
set_option maxRecDepth 100000 in
theorem eB_markSound_23 (d : Nat) (a1 : Int32) (S : ZS) : zB_markSound_23 d a1 S =
  zif ((S.1 8 0 1) ≤ a1) (
    some S) (
    zB_markSound_33 d a1 (0 : Int32) S) := zeqv d 90 8 23 [some (zr 8 0), some (zi a1), none] [] S
set_option maxRecDepth 100000 in
theorem eB_markSound_33 (d : Nat) (a1 : Int32) (a2 : Int32) (S : ZS) : zB_markSound_33 d a1 a2 S =
  zg (zin a1 60) (
  zif ((S.1 51 0 (zx a1)) ≤ a2) (
    zB_markSound_23 d (a1 + (1 : Int32)) S) (
    zg (zin a1 60) (
    zif ((S.1 52 0 (zx a1)) = 0) (
      zg (zin ((a1 * (6 : Int32)) + a2) 360) (
      zg (zin (S.1 50 0 (zx ((a1 * (6 : Int32)) + a2))) 96) (
      zg (zbl (1 : Int32)) (
      zB_markSound_33 d a1 (a2 + (1 : Int32)) ((zu S.1 53 0 (zx (S.1 50 0 (zx ((a1 * (6 : Int32)) + a2)))) (1 : Int32)), S.2))))) (
      zB_markSound_23 d (a1 + (1 : Int32)) S)))) := zeqv d 90 8 33 [some (zr 8 0), some (zi a1), some (zi a2)] [] S
set_option maxRecDepth 100000 in
theorem eB_choose (d : Nat) (a1 : Int32) (a2 : Int32) (S : ZS) : zB_choose (d + 1) a1 a2 S =
  (zB_firstUnexplained d a1 S).bind (fun r1 =>
  zif (r1.1 = (-1 : Int32)) (
    (zB_addSet d a1 r1.2).bind (fun r2 =>
    some r2)) (
    zB_choose_20 d a1 a2 r1.1 (0 : Int32) r1.2)) := zeqv d 91 8 0 [some (zr 8 0), some (zi a1), some (zi a2), none, none, none] [] S
set_option maxRecDepth 100000 in
theorem eB_choose_20 (d : Nat) (a1 : Int32) (a2 : Int32) (a3 : Int32) (a4 : Int32) (S : ZS) : zB_choose_20 d a1 a2 a3 a4 S =
  zg (zin a3 60) (
  zif ((S.1 51 0 (zx a3)) ≤ a4) (
    some S) (
    zif (a2 ≤ a1) (
      some S) (
      zg (zin ((a3 * (6 : Int32)) + a4) 360) (
      zg (zin (S.1 50 0 (zx ((a3 * (6 : Int32)) + a4))) 96) (
      zif ((S.1 53 0 (zx (S.1 50 0 (zx ((a3 * (6 : Int32)) + a4))))) = 0) (
        zg (zin a1 3) (
        (zB_choose d (a1 + (1 : Int32)) a2 ((zu S.1 54 0 (zx a1) (S.1 50 0 (zx ((a3 * (6 : Int32)) + a4)))), S.2)).bind (fun r1 =>
        zB_choose_20 d a1 a2 a3 (a4 + (1 : Int32)) r1))) (
        zB_choose_20 d a1 a2 a3 (a4 + (1 : Int32)) S)))))) := zeqv d 91 8 20 [some (zr 8 0), some (zi a1), some (zi a2), some (zi a3), some (zi a4), none] [] S
set_option maxRecDepth 100000 in
theorem eB_firstUnexplained (d : Nat) (a1 : Int32) (S : ZS) : zB_firstUnexplained (d + 1) a1 S =
  zB_firstUnexplained_2 d a1 (0 : Int32) S := zeqi d 92 8 0 [some (zr 8 0), some (zi a1), none] [] S
set_option maxRecDepth 100000 in
theorem eB_firstUnexplained_2 (d : Nat) (a1 : Int32) (a2 : Int32) (S : ZS) : zB_firstUnexplained_2 d a1 a2 S =
  zif ((S.1 8 0 1) ≤ a2) (
    some ((-1 : Int32), S)) (
    zg (zin a2 60) (
    zif ((S.1 52 0 (zx a2)) = 0) (
      zB_firstUnexplained_2 d a1 (a2 + (1 : Int32)) S) (
      (zB_isExplained d a2 a1 S).bind (fun r1 =>
      zif (r1.1 = 0) (
        some (a2, r1.2)) (
        zB_firstUnexplained_2 d a1 (a2 + (1 : Int32)) r1.2))))) := zeqi d 92 8 2 [some (zr 8 0), some (zi a1), some (zi a2)] [] S
set_option maxRecDepth 100000 in
theorem eB_isExplained (d : Nat) (a1 : Int32) (a2 : Int32) (S : ZS) : zB_isExplained (d + 1) a1 a2 S =
  zB_isExplained_2 d a1 a2 (0 : Int32) S := zeqi d 93 8 0 [some (zr 8 0), some (zi a1), some (zi a2), none, none] [] S
set_option maxRecDepth 100000 in
theorem eB_isExplained_2 (d : Nat) (a1 : Int32) (a2 : Int32) (a3 : Int32) (S : ZS) : zB_isExplained_2 d a1 a2 a3 S =
  zg (zin a1 60) (
  zif ((S.1 51 0 (zx a1)) ≤ a3) (
    some ((0 : Int32), S)) (
    zB_isExplained_15 d a1 a2 a3 (0 : Int32) S)) := zeqi d 93 8 2 [some (zr 8 0), some (zi a1), some (zi a2), some (zi a3), none] [] S
set_option maxRecDepth 100000 in
theorem eB_isExplained_15 (d : Nat) (a1 : Int32) (a2 : Int32) (a3 : Int32) (a4 : Int32) (S : ZS) : zB_isExplained_15 d a1 a2 a3 a4 S =
  zif (a2 ≤ a4) (
    zB_isExplained_2 d a1 a2 (a3 + (1 : Int32)) S) (
    zg (zin ((a1 * (6 : Int32)) + a3) 360) (
    zg (zin a4 3) (
    zif ((S.1 50 0 (zx ((a1 * (6 : Int32)) + a3))) = (S.1 54 0 (zx a4))) (
      some ((1 : Int32), S)) (
      zB_isExplained_15 d a1 a2 a3 (a4 + (1 : Int32)) S)))) := zeqi d 93 8 15 [some (zr 8 0), some (zi a1), some (zi a2), some (zi a3), some (zi a4)] [] S
set_option maxRecDepth 100000 in
theorem eB_addSet (d : Nat) (a1 : Int32) (S : ZS) : zB_addSet (d + 1) a1 S =
  zB_addSet_2 d a1 (0 : Int32) S := zeqv d 94 8 0 [some (zr 8 0), some (zi a1), none, none] [] S
set_option maxRecDepth 100000 in
theorem eB_addSet_2 (d : Nat) (a1 : Int32) (a2 : Int32) (S : ZS) : zB_addSet_2 d a1 a2 S =
  zif (a1 ≤ a2) (
    zif ((S.1 8 0 9) = 0) (
      zB_addSet_98 d a1 S) (
      (zB_comesFirst d a1 S).bind (fun r1 =>
      zif (r1.1 = 0) (
        some ((zu r1.2.1 8 0 9 ((r1.2.1 8 0 9) + (1 : Int32))), r1.2.2)) (
        zB_addSet_98 d a1 r1.2)))) (
    zg (zin a2 3) (
    zg (zin (S.1 54 0 (zx a2)) 96) (
    zg (zin (S.1 54 0 (zx a2)) 96) (
    zB_addSet_24 d a1 a2 a2 ((zu S.1 57 0 (zx (S.1 54 0 (zx a2))) ((S.1 57 0 (zx (S.1 54 0 (zx a2)))) + (1 : Int32))), S.2))))) := zeqv d 94 8 2 [some (zr 8 0), some (zi a1), some (zi a2), none] [] S
set_option maxRecDepth 100000 in
theorem eB_addSet_24 (d : Nat) (a1 : Int32) (a2 : Int32) (a3 : Int32) (S : ZS) : zB_addSet_24 d a1 a2 a3 S =
  zif (a3 ≤ 0) (
    zg (zin a2 3) (
    zg (zin a3 3) (
    zB_addSet_2 d a1 (a2 + (1 : Int32)) ((zu S.1 55 0 (zx a3) (S.1 54 0 (zx a2))), S.2)))) (
    zg (zin (a3 - (1 : Int32)) 3) (
    zg (zin a2 3) (
    zif ((S.1 55 0 (zx (a3 - (1 : Int32)))) ≤ (S.1 54 0 (zx a2))) (
      zg (zin a2 3) (
      zg (zin a3 3) (
      zB_addSet_2 d a1 (a2 + (1 : Int32)) ((zu S.1 55 0 (zx a3) (S.1 54 0 (zx a2))), S.2)))) (
      zg (zin (a3 - (1 : Int32)) 3) (
      zg (zin a3 3) (
      zB_addSet_24 d a1 a2 (a3 + (-1 : Int32)) ((zu S.1 55 0 (zx a3) (S.1 55 0 (zx (a3 - (1 : Int32))))), S.2))))))) := zeqv d 94 8 24 [some (zr 8 0), some (zi a1), some (zi a2), some (zi a3)] [] S
set_option maxRecDepth 100000 in
theorem eB_addSet_98 (d : Nat) (a1 : Int32) (S : ZS) : zB_addSet_98 d a1 S =
  (zcv (zcall d) 1003 [zr 55 0, zi (0 : Int32), zr 56 0, zi (0 : Int32), zi a1] S).bind (fun r1 =>
  some ((zu r1.1 8 0 9 ((r1.1 8 0 9) + (1 : Int32))), r1.2)) := zeqv d 94 8 98 [some (zr 8 0), some (zi a1), none, none] [] S
set_option maxRecDepth 100000 in
theorem eB_comesFirst (d : Nat) (a1 : Int32) (S : ZS) : zB_comesFirst (d + 1) a1 S =
  zB_comesFirst_2 d a1 (0 : Int32) S := zeqi d 95 8 0 [some (zr 8 0), some (zi a1), none] [] S
set_option maxRecDepth 100000 in
theorem eB_comesFirst_2 (d : Nat) (a1 : Int32) (a2 : Int32) (S : ZS) : zB_comesFirst_2 d a1 a2 S =
  zif (a1 ≤ a2) (
    some ((0 : Int32), S)) (
    zg (zin a2 3) (
    zg (zin a2 3) (
    zif ((S.1 55 0 (zx a2)) = (S.1 56 0 (zx a2))) (
      zB_comesFirst_2 d a1 (a2 + (1 : Int32)) S) (
      zg (zin a2 3) (
      zg (zin a2 3) (
      zif ((S.1 56 0 (zx a2)) ≤ (S.1 55 0 (zx a2))) (
        some ((0 : Int32), S)) (
        some ((1 : Int32), S)))))))) := zeqi d 95 8 2 [some (zr 8 0), some (zi a1), some (zi a2)] [] S
set_option maxRecDepth 100000 in
theorem eW_toRing (d : Nat) (o0 : Nat) (o1 : Nat) (a2 : Int32) (a3 : Int32) (S : ZS) : zW_toRing (d + 1) o0 o1 a2 a3 S =
  (zci (zcall d) 1001 [zi a3, zi (5 : Int32)] ((zu (zu (zu S.1 9 o0 0 (S.1 2 o1 0)) 9 o0 1 ((zu S.1 9 o0 0 (S.1 2 o1 0)) 2 o1 1)) 9 o0 2 (-2 : Int32)), S.2)).bind (fun r1 =>
  zW_toRing_34 d o0 a2 a3 (0 : Int32) ((zu r1.2.1 9 o0 3 r1.1), r1.2.2)) := zeqv d 96 9 0 [some (zr 9 o0), some (zr 2 o1), some (zi a2), some (zi a3), none] [] S
set_option maxRecDepth 100000 in
theorem eW_toRing_34 (d : Nat) (a0 : Nat) (a2 : Int32) (a3 : Int32) (a4 : Int32) (S : ZS) : zW_toRing_34 d a0 a2 a3 a4 S =
  zif ((S.1 9 a0 3) ≤ a4) (
    some S) (
    (zX_digitAt d a2 a3 a4 S).bind (fun r1 =>
    zg (zin a4 5) (
    zW_toRing_34 d a0 a2 a3 (a4 + (1 : Int32)) ((zu r1.2.1 58 a0 (zx a4) r1.1), r1.2.2)))) := zeqv d 96 9 34 [some (zr 9 a0), none, some (zi a2), some (zi a3), some (zi a4)] [] S
set_option maxRecDepth 100000 in
theorem eW_again (d : Nat) (o0 : Nat) (o1 : Nat) (S : ZS) : zW_again (d + 1) o0 o1 S =
  zif (((zu (zu S.1 9 o0 0 (S.1 2 o1 0)) 9 o0 1 ((zu S.1 9 o0 0 (S.1 2 o1 0)) 2 o1 1)) 2 o1 10) = (-1 : Int32)) (
    zW_again_33 d o0 o1 (-1 : Int32) o0 ((zu (zu S.1 9 o0 0 (S.1 2 o1 0)) 9 o0 1 ((zu S.1 9 o0 0 (S.1 2 o1 0)) 2 o1 1)), S.2)) (
    zW_again_33 d o0 o1 ((zu (zu S.1 9 o0 0 (S.1 2 o1 0)) 9 o0 1 ((zu S.1 9 o0 0 (S.1 2 o1 0)) 2 o1 1)) 2 o1 10) o0 ((zu (zu S.1 9 o0 0 (S.1 2 o1 0)) 9 o0 1 ((zu S.1 9 o0 0 (S.1 2 o1 0)) 2 o1 1)), S.2)) := zeqv d 97 9 0 [some (zr 9 o0), some (zr 2 o1)] [] S
set_option maxRecDepth 100000 in
theorem eW_again_33 (d : Nat) (a0 : Nat) (a1 : Nat) (s0 : Int32) (s1 : Nat) (S : ZS) : zW_again_33 d a0 a1 s0 s1 S =
  (zci (zcall d) 1001 [zi ((zu S.1 9 s1 2 s0) 2 a1 6), zi (5 : Int32)] ((zu S.1 9 s1 2 s0), S.2)).bind (fun r1 =>
  (zcv (zcall d) 1003 [zr 30 a1, zi (0 : Int32), zr 58 a0, zi (0 : Int32), zi ((zu r1.2.1 9 a0 3 r1.1) 9 a0 3)] ((zu r1.2.1 9 a0 3 r1.1), r1.2.2)).bind (fun r2 =>
  some r2)) := zeqv d 97 9 33 [some (zr 9 a0), some (zr 2 a1)] [zi s0, zr 9 s1] S
set_option maxRecDepth 100000 in
theorem eW_ringsOverJunction (d : Nat) (o0 : Nat) (a1 : Int32) (S : ZS) : zW_ringsOverJunction (d + 1) o0 a1 S =
  zif (((S.1 9 o0 3) - a1) < (3 : Int32)) (
    some ((0 : Int32), S)) (
    zif (0 ≤ (S.1 9 o0 2)) (
      some ((0 : Int32), S)) (
      some ((1 : Int32), S))) := zeqi d 98 9 0 [some (zr 9 o0), some (zi a1)] [] S
set_option maxRecDepth 100000 in
theorem eW_ringsAtFinal (d : Nat) (o0 : Nat) (a2 : Int32) (a3 : Int32) (S : ZS) : zW_ringsAtFinal (d + 1) o0 a2 a3 S =
  zif ((2 : Int32) ≤ ((S.1 9 o0 3) - a3)) (
    zg (zin a3 5) (
    zg (zin (a3 + (1 : Int32)) 5) (
    (zC_lineAt d a2 (((S.1 58 o0 (zx a3)) * (10 : Int32)) + (S.1 58 o0 (zx (a3 + (1 : Int32))))) S).bind (fun r1 =>
    zif ((r1.2.1 9 o0 2) = (-2 : Int32)) (
      zif (r1.1 = (r1.2.1 9 o0 0)) (
        some ((0 : Int32), r1.2)) (
        (zC_isQuiet d r1.1 r1.2).bind (fun r2 =>
        zif (r2.1 = 0) (
          some ((0 : Int32), r2.2)) (
          some ((1 : Int32), r2.2))))) (
      zif (r1.1 = (-1 : Int32)) (
        some ((0 : Int32), r1.2)) (
        zif (r1.1 = (r1.2.1 9 o0 2)) (
          some ((1 : Int32), r1.2)) (
          some ((0 : Int32), r1.2)))))))) (
    some ((0 : Int32), S)) := zeqi d 99 9 0 [some (zr 9 o0), some (zr 0 0), some (zi a2), some (zi a3), none] [] S
set_option maxRecDepth 100000 in
theorem eX_seconds (d : Nat) (a1 : Int32) (S : ZS) : zX_seconds (d + 1) a1 S =
  zif (a1 < 0) (
    some ((-1 : Int32), S)) (
    zif ((100000 : Int32) < a1) (
      some ((-1 : Int32), S)) (
      zif (a1 ≤ ((999999 : Int32) - (S.1 10 0 9))) (
        some (((zu S.1 10 0 9 ((S.1 10 0 9) + a1)) 10 0 9), ((zu S.1 10 0 9 ((S.1 10 0 9) + a1)), S.2))) (
        some ((-1 : Int32), S)))) := zeqi d 100 11 0 [some (zr 10 0), some (zi a1)] [] S
set_option maxRecDepth 100000 in
theorem eX_rack (d : Nat) (a1 : Int32) (a2 : Int32) (a3 : Int32) (S : ZS) : zX_rack (d + 1) a1 a2 a3 S =
  (zP_addRack d a1 a2 a3 S).bind (fun r1 =>
  some (r1.1, r1.2)) := zeqi d 101 11 0 [some (zr 10 0), some (zi a1), some (zi a2), some (zi a3)] [] S
set_option maxRecDepth 100000 in
theorem eX_outlet (d : Nat) (a1 : Int32) (a2 : Int32) (a3 : Int32) (a4 : Int32) (a5 : Int32) (S : ZS) : zX_outlet (d + 1) a1 a2 a3 a4 a5 S =
  (zP_lead d a1 a2 a3 a4 a5 S).bind (fun r1 =>
  zgb r1.1 (some (r1.1, r1.2))) := zeqi d 102 11 0 [some (zr 10 0), some (zi a1), some (zi a2), some (zi a3), some (zi a4), some (zi a5)] [] S
set_option maxRecDepth 100000 in
theorem eX_zone (d : Nat) (a1 : Int32) (a2 : Int32) (S : ZS) : zX_zone (d + 1) a1 a2 S =
  (zP_tellZone d a1 a2 S).bind (fun r1 =>
  zgb r1.1 (some (r1.1, r1.2))) := zeqi d 103 11 0 [some (zr 10 0), some (zi a1), some (zi a2)] [] S
set_option maxRecDepth 100000 in
theorem eX_line (d : Nat) (a1 : Int32) (a2 : Int32) (a3 : Int32) (S : ZS) : zX_line (d + 1) a1 a2 a3 S =
  (zC_addLine d a1 a2 a3 S).bind (fun r1 =>
  some (r1.1, r1.2)) := zeqi d 104 11 0 [some (zr 10 0), some (zi a1), some (zi a2), some (zi a3)] [] S
set_option maxRecDepth 100000 in
theorem eX_out (d : Nat) (a1 : Int32) (a2 : Int32) (S : ZS) : zX_out (d + 1) a1 a2 S =
  (zP_isSwitch d a1 S).bind (fun r1 =>
  zif (r1.1 = 0) (
    some ((0 : Int32), r1.2)) (
    zg (zin a1 96) (
    zg (zbl a2) (
    some ((1 : Int32), ((zu r1.2.1 37 0 (zx a1) a2), r1.2.2)))))) := zeqi d 105 11 0 [some (zr 10 0), some (zi a1), some (zi a2)] [] S
set_option maxRecDepth 100000 in
theorem eX_faulty (d : Nat) (a1 : Int32) (a2 : Int32) (S : ZS) : zX_faulty (d + 1) a1 a2 S =
  (zP_isSwitch d a1 S).bind (fun r1 =>
  zif (r1.1 = 0) (
    some ((0 : Int32), r1.2)) (
    zg (zin a1 96) (
    zg (zbl a2) (
    some ((1 : Int32), ((zu r1.2.1 38 0 (zx a1) a2), r1.2.2)))))) := zeqi d 106 11 0 [some (zr 10 0), some (zi a1), some (zi a2)] [] S
set_option maxRecDepth 100000 in
theorem eX_lift (d : Nat) (a1 : Int32) (S : ZS) : zX_lift (d + 1) a1 S =
  (zC_isQuiet d a1 S).bind (fun r1 =>
  zif (r1.1 = 0) (
    some ((-1 : Int32), r1.2)) (
    zg (zin a1 40) (
    (zci (zcall d) 6 [zr 0 0, zo (r1.2.2.2.1 20 0 (zx a1))] r1.2).bind (fun r2 =>
    some (r2.1, r2.2))))) := zeqi d 107 11 0 [some (zr 10 0), some (zi a1)] [] S
set_option maxRecDepth 100000 in
theorem eX_dial (d : Nat) (a1 : Int32) (a2 : Int32) (S : ZS) : zX_dial (d + 1) a1 a2 S =
  (zC_isCalling d a1 S).bind (fun r1 =>
  zif (r1.1 = 0) (
    some ((-1 : Int32), r1.2)) (
    zif (a2 < 0) (
      some ((-1 : Int32), r1.2)) (
      zif (a2 < (10 : Int32)) (
        zg (zin a1 40) (
        (zci (zcall d) 7 [zr 0 0, zo (r1.2.2.2.1 20 0 (zx a1)), zi a2] r1.2).bind (fun r2 =>
        some (r2.1, r2.2)))) (
        some ((-1 : Int32), r1.2))))) := zeqi d 108 11 0 [some (zr 10 0), some (zi a1), some (zi a2)] [] S
set_option maxRecDepth 100000 in
theorem eX_answer (d : Nat) (a1 : Int32) (S : ZS) : zX_answer (d + 1) a1 S =
  (zC_isCalling d a1 S).bind (fun r1 =>
  zif (r1.1 = 0) (
    some ((0 : Int32), r1.2)) (
    zg (zin a1 40) (
    zder (r1.2.2.2.1 20 0 (zx a1)) 2 (fun i2 =>
    zif ((r1.2.1 2 i2 3) = (5 : Int32)) (
      zg (zin a1 40) (
      zder (r1.2.2.2.1 20 0 (zx a1)) 2 (fun i3 =>
      zg (zin a1 40) (
      zder (r1.2.2.2.1 20 0 (zx a1)) 2 (fun i4 =>
      some ((1 : Int32), ((zu (zu r1.2.1 2 i3 3 (6 : Int32)) 2 i4 11 ((zu r1.2.1 2 i3 3 (6 : Int32)) 10 0 9)), r1.2.2))))))) (
      some ((0 : Int32), r1.2)))))) := zeqi d 109 11 0 [some (zr 10 0), some (zi a1)] [] S
set_option maxRecDepth 100000 in
theorem eX_end (d : Nat) (a1 : Int32) (S : ZS) : zX_end (d + 1) a1 S =
  (zC_isCalling d a1 S).bind (fun r1 =>
  zif (r1.1 = 0) (
    some ((-1 : Int32), r1.2)) (
    zg (zin a1 40) (
    zder (r1.2.2.2.1 20 0 (zx a1)) 2 (fun i2 =>
    zif ((r1.2.1 2 i2 3) = (6 : Int32)) (
      zder (r1.2.2.2.1 20 0 (zx a1)) 2 (fun i3 =>
      (zci (zcall d) 19 [zo (r1.2.2.2.1 20 0 (zx a1))] r1.2).bind (fun r4 =>
      (zP_zoneOf d r4.1 r4.2).bind (fun r5 =>
      (zci (zcall d) 82 [zo (r1.2.2.2.1 10 0 7), zi (r1.2.1 2 i3 11), zi (r1.2.1 10 0 9), zi r5.1, zi a1] r5.2).bind (fun r6 =>
      zder (r1.2.2.2.1 20 0 (zx a1)) 2 (fun i7 =>
      (zX_today d r6.2).bind (fun r8 =>
      (zG_write d a1 r6.1 ((r6.2.1 2 i7 11) / (86400 : Int32)) r8.1 r8.2).bind (fun r9 =>
      (zcv (zcall d) 12 [zr 0 0, zo (r1.2.2.2.1 20 0 (zx a1))] r9).bind (fun r10 =>
      some (r6.1, r10)))))))))) (
      (zcv (zcall d) 12 [zr 0 0, zo (r1.2.2.2.1 20 0 (zx a1))] r1.2).bind (fun r11 =>
      some ((0 : Int32), r11))))))) := zeqi d 110 11 0 [some (zr 10 0), some (zi a1), none, none] [] S
set_option maxRecDepth 100000 in
theorem eX_feed (d : Nat) (w1 : Int64) (w3 : Int64) (w5 : Int64) (S : ZS) : zX_feed (d + 1) w1 w3 w5 S =
  (zT_addSigns d w1 S).bind (fun r1 =>
  (zT_addSigns d w3 r1).bind (fun r2 =>
  (zT_addSigns d w5 r2).bind (fun r3 =>
  some ((r3.1 6 0 1), r3)))) := zeqi d 111 11 0 [some (zr 10 0), some (zl w1), none, some (zl w3), none, some (zl w5), none] [] S
set_option maxRecDepth 100000 in
theorem eX_tariff (d : Nat)  (S : ZS) : zX_tariff (d + 1)  S =
  (zci (zcall d) 68 [zo (S.2.2.1 10 0 8)] S).bind (fun r1 =>
  zif (r1.1 = 0) (
    some (r1.1, ((zu r1.2.1 6 0 1 (0 : Int32)), r1.2.2.1, (zu (zu r1.2.2.2.1 10 0 8 (r1.2.2.2.1 10 0 7)) 10 0 7 (r1.2.2.2.1 10 0 8)), r1.2.2.2.2))) (
    some (r1.1, ((zu r1.2.1 6 0 1 (0 : Int32)), r1.2.2)))) := zeqi d 112 11 0 [some (zr 10 0), none, none] [] S
set_option maxRecDepth 100000 in
theorem eX_word (d : Nat) (a1 : Int32) (a2 : Int32) (S : ZS) : zX_word (d + 1) a1 a2 S =
  (zX_today d S).bind (fun r1 =>
  (zG_tell d a1 a2 r1.1 r1.2).bind (fun r2 =>
  zgb r2.1 (some (r2.1, r2.2)))) := zeqi d 113 11 0 [some (zr 10 0), some (zi a1), some (zi a2)] [] S
set_option maxRecDepth 100000 in
theorem eX_bill (d : Nat) (a1 : Int32) (a2 : Int32) (a3 : Int32) (a4 : Int32) (S : ZS) : zX_bill (d + 1) a1 a2 a3 a4 S =
  zif (a2 < 0) (
    zX_bill_34 d a1 a2 a3 a4 (0 : Int32) S) (
    zif (a3 < a2) (
      zX_bill_34 d a1 a2 a3 a4 (0 : Int32) S) (
      zif ((11 : Int32) < a3) (
        zX_bill_34 d a1 a2 a3 a4 (0 : Int32) S) (
        zif (a4 < 0) (
          zX_bill_34 d a1 a2 a3 a4 (0 : Int32) S) (
          (zX_today d S).bind (fun r1 =>
          zif (r1.1 < a4) (
            zX_bill_34 d a1 a2 a3 a4 (0 : Int32) r1.2) (
            zX_bill_34 d a1 a2 a3 a4 (1 : Int32) r1.2)))))) := zeqi d 114 11 0 [some (zr 10 0), some (zi a1), some (zi a2), some (zi a3), some (zi a4), none] [] S
set_option maxRecDepth 100000 in
theorem eX_bill_34 (d : Nat) (a1 : Int32) (a2 : Int32) (a3 : Int32) (a4 : Int32) (s0 : Int32) (S : ZS) : zX_bill_34 d a1 a2 a3 a4 s0 S =
  zif (s0 = 0) (
    some ((-1 : Int32), S)) (
    (zC_isLine d a1 S).bind (fun r1 =>
    zif (r1.1 = 0) (
      some ((-1 : Int32), r1.2)) (
      (zG_sum d a1 a2 a3 a4 r1.2).bind (fun r2 =>
      some (r2.1, r2.2))))) := zeqi d 114 11 34 [some (zr 10 0), some (zi a1), some (zi a2), some (zi a3), some (zi a4), none] [zi s0] S
set_option maxRecDepth 100000 in
theorem eX_would (d : Nat) (a1 : Int32) (a2 : Int32) (a3 : Int32) (S : ZS) : zX_would (d + 1) a1 a2 a3 S =
  (zX_mayDial d a1 a2 a3 S).bind (fun r1 =>
  zif (r1.1 = 0) (
    some ((-1 : Int32), r1.2)) (
    zg (zin a1 40) (
    (zci (zcall d) 11 [zr 0 0, zo (r1.2.2.2.1 20 0 (zx a1)), zi a2, zi a3] r1.2).bind (fun r2 =>
    zg (zin a1 40) (
    (zcv (zcall d) 12 [zr 0 0, zo (r2.2.2.2.1 20 0 (zx a1))] r2.2).bind (fun r3 =>
    some (r2.1, r3))))))) := zeqi d 115 11 0 [some (zr 10 0), some (zi a1), some (zi a2), some (zi a3), none] [] S
set_option maxRecDepth 100000 in
theorem eX_block (d : Nat) (a1 : Int32) (a2 : Int32) (a3 : Int32) (a4 : Int32) (a5 : Int32) (a6 : Int32) (S : ZS) : zX_block (d + 1) a1 a2 a3 a4 a5 a6 S =
  zif (a1 = a4) (
    some ((-1 : Int32), S)) (
    (zX_mayDial d a1 a2 a3 S).bind (fun r1 =>
    zif (r1.1 = 0) (
      some ((-1 : Int32), r1.2)) (
      (zX_mayDial d a4 a5 a6 r1.2).bind (fun r2 =>
      zif (r2.1 = 0) (
        some ((-1 : Int32), r2.2)) (
        (zX_would d a1 a2 a3 r2.2).bind (fun r3 =>
        zif (r3.1 = (5 : Int32)) (
          (zX_would d a4 a5 a6 r3.2).bind (fun r4 =>
          zif (r4.1 = (5 : Int32)) (
            (zX_blocksNext d a1 a2 a3 a4 a5 a6 r4.2).bind (fun r5 =>
            zif (r5.1 = 0) (
              zX_block_79 d a1 a2 a3 a4 a5 a6 (0 : Int32) r5.2) (
              zX_block_79 d a1 a2 a3 a4 a5 a6 (1 : Int32) r5.2))) (
            some ((-1 : Int32), r4.2)))) (
          some ((-1 : Int32), r3.2)))))))) := zeqi d 116 11 0 [some (zr 10 0), some (zi a1), some (zi a2), some (zi a3), some (zi a4), some (zi a5), some (zi a6)] [] S
set_option maxRecDepth 100000 in
theorem eX_block_79 (d : Nat) (a1 : Int32) (a2 : Int32) (a3 : Int32) (a4 : Int32) (a5 : Int32) (a6 : Int32) (s0 : Int32) (S : ZS) : zX_block_79 d a1 a2 a3 a4 a5 a6 s0 S =
  (zX_blocksNext d a4 a5 a6 a1 a2 a3 S).bind (fun r1 =>
  zif (r1.1 = 0) (
    some ((s0 + (0 : Int32)), r1.2)) (
    some ((s0 + (2 : Int32)), r1.2))) := zeqi d 116 11 79 [some (zr 10 0), some (zi a1), some (zi a2), some (zi a3), some (zi a4), some (zi a5), some (zi a6)] [zi s0] S
set_option maxRecDepth 100000 in
theorem eX_laid (d : Nat) (a1 : Int32) (a2 : Int32) (a3 : Int32) (a4 : Int32) (S : ZS) : zX_laid (d + 1) a1 a2 a3 a4 S =
  (zX_mayDial d a1 a2 a3 S).bind (fun r1 =>
  zif (r1.1 = 0) (
    some ((-1 : Int32), r1.2)) (
    zif (a4 < 0) (
      some ((-1 : Int32), r1.2)) (
      zif (a4 ≤ (1 : Int32)) (
        (zR_fewestMoved d a1 a2 a3 r1.2).bind (fun r2 =>
        zif (a4 = 0) (
          some (r2.1, r2.2)) (
          some ((r2.2.1 5 0 5), r2.2)))) (
        some ((-1 : Int32), r1.2))))) := zeqi d 117 11 0 [some (zr 10 0), some (zi a1), some (zi a2), some (zi a3), some (zi a4), none] [] S
set_option maxRecDepth 100000 in
theorem eX_lost (d : Nat) (a1 : Int32) (a2 : Int32) (a3 : Int32) (S : ZS) : zX_lost (d + 1) a1 a2 a3 S =
  (zO_measure d a1 a2 a3 S).bind (fun r1 =>
  zif (r1.1 = 0) (
    some ((-1 : Int32), r1.2)) (
    (zO_waysLost d a3 (0 : Int32) r1.2).bind (fun r2 =>
    some (r2.1, r2.2)))) := zeqi d 118 11 0 [some (zr 10 0), some (zi a1), some (zi a2), some (zi a3)] [] S
set_option maxRecDepth 100000 in
theorem eX_more (d : Nat) (a1 : Int32) (a2 : Int32) (a3 : Int32) (a4 : Int32) (S : ZS) : zX_more (d + 1) a1 a2 a3 a4 S =
  zif (a4 < 0) (
    some ((-1 : Int32), S)) (
    zif (a4 ≤ (1000 : Int32)) (
      (zO_measure d a1 a2 a3 S).bind (fun r1 =>
      zif (r1.1 = 0) (
        some ((-1 : Int32), r1.2)) (
        (zO_sharedMore d a3 a4 r1.2).bind (fun r2 =>
        some (r2.1, r2.2))))) (
      some ((-1 : Int32), S))) := zeqi d 119 11 0 [some (zr 10 0), some (zi a1), some (zi a2), some (zi a3), some (zi a4)] [] S
set_option maxRecDepth 100000 in
theorem eX_test (d : Nat) (a1 : Int32) (a2 : Int32) (a3 : Int32) (S : ZS) : zX_test (d + 1) a1 a2 a3 S =
  (zX_mayDial d a1 a2 a3 S).bind (fun r1 =>
  zif (r1.1 = 0) (
    some ((-1 : Int32), r1.2)) (
    zg (zin a1 40) (
    (zci (zcall d) 11 [zr 0 0, zo (r1.2.2.2.1 20 0 (zx a1)), zi a2, zi a3] r1.2).bind (fun r2 =>
    zif (r2.1 = (2 : Int32)) (
      zX_test_48 d (r1.2.2.2.1 20 0 (zx a1)) r2.1 r2.2) (
      zif (r2.1 = (5 : Int32)) (
        zX_test_48 d (r1.2.2.2.1 20 0 (zx a1)) r2.1 r2.2) (
        (zcv (zcall d) 12 [zr 0 0, zo (r1.2.2.2.1 20 0 (zx a1))] r2.2).bind (fun r3 =>
        some (r2.1, r3)))))))) := zeqi d 120 11 0 [some (zr 10 0), some (zi a1), some (zi a2), some (zi a3), none, none] [] S
set_option maxRecDepth 100000 in
theorem eX_test_48 (d : Nat) (a4 : Option ZR) (a5 : Int32) (S : ZS) : zX_test_48 d a4 a5 S =
  zif (a5 = (2 : Int32)) (
    (zcv (zcall d) 87 [zr 8 0, zo a4, zi (1 : Int32)] S).bind (fun r1 =>
    (zcv (zcall d) 12 [zr 0 0, zo a4] r1).bind (fun r2 =>
    some (a5, r2)))) (
    (zcv (zcall d) 87 [zr 8 0, zo a4, zi (0 : Int32)] S).bind (fun r3 =>
    (zcv (zcall d) 12 [zr 0 0, zo a4] r3).bind (fun r4 =>
    some (a5, r4)))) := zeqi d 120 11 48 [some (zr 10 0), none, none, none, some (zo a4), some (zi a5)] [] S
set_option maxRecDepth 100000 in
theorem eX_explain (d : Nat) (a1 : Int32) (S : ZS) : zX_explain (d + 1) a1 S =
  zif (a1 < 0) (
    some ((-1 : Int32), S)) (
    zif (a1 ≤ (3 : Int32)) (
      (zB_fewest d S).bind (fun r1 =>
      zif (a1 = 0) (
        some (r1.1, r1.2)) (
        zif (r1.1 < a1) (
          some ((-1 : Int32), r1.2)) (
          zg (zin (a1 - (1 : Int32)) 3) (
          some ((r1.2.1 56 0 (zx (a1 - (1 : Int32)))), r1.2)))))) (
      some ((-1 : Int32), S))) := zeqi d 121 11 0 [some (zr 10 0), some (zi a1), none] [] S
set_option maxRecDepth 100000 in
theorem eX_sure (d : Nat) (a1 : Int32) (S : ZS) : zX_sure (d + 1) a1 S =
  (zP_isSwitch d a1 S).bind (fun r1 =>
  zif (r1.1 = 0) (
    some ((-1 : Int32), r1.2)) (
    (zB_fewest d r1.2).bind (fun r2 =>
    zif (r2.1 = (-1 : Int32)) (
      some ((-1 : Int32), r2.2)) (
      (zB_isInAllSets d a1 r2.2).bind (fun r3 =>
      zif (r3.1 = 0) (
        some ((0 : Int32), r3.2)) (
        some ((1 : Int32), r3.2))))))) := zeqi d 122 11 0 [some (zr 10 0), some (zi a1)] [] S
set_option maxRecDepth 100000 in
theorem eX_forget (d : Nat)  (S : ZS) : zX_forget (d + 1)  S =
  some ((S.1 8 0 1), ((zu S.1 8 0 1 (0 : Int32)), S.2)) := zeqi d 123 11 0 [some (zr 10 0), none] [] S
set_option maxRecDepth 100000 in
theorem eX_look (d : Nat) (a1 : Int32) (a2 : Int32) (S : ZS) : zX_look (d + 1) a1 a2 S =
  (zC_isLine d a1 S).bind (fun r1 =>
  zif (r1.1 = 0) (
    none) (
    zif (a2 < 0) (
      none) (
      zif (a2 ≤ (5 : Int32)) (
        zg (zin a1 40) (
        zif (a2 = 0) (
          zder (r1.2.2.2.1 20 0 (zx a1)) 2 (fun i2 =>
          some ((r1.2.1 2 i2 2), r1.2))) (
          zder (r1.2.2.2.1 20 0 (zx a1)) 2 (fun i3 =>
          zif ((r1.2.1 2 i3 2) = (1 : Int32)) (
            (zci (zcall d) 20 [zo (r1.2.2.2.1 20 0 (zx a1)), zi a2] r1.2).bind (fun r4 =>
            some (r4.1, r4.2))) (
            some ((-1 : Int32), r1.2)))))) (
        none)))) := zeqi d 124 11 0 [some (zr 10 0), some (zi a1), some (zi a2), none] [] S
set_option maxRecDepth 100000 in
theorem eX_path (d : Nat) (a1 : Int32) (a2 : Int32) (S : ZS) : zX_path (d + 1) a1 a2 S =
  (zC_isLine d a1 S).bind (fun r1 =>
  zif (r1.1 = 0) (
    some ((-1 : Int32), r1.2)) (
    zif (a2 < 0) (
      some ((-1 : Int32), r1.2)) (
      zg (zin a1 40) (
      zder (r1.2.2.2.1 20 0 (zx a1)) 2 (fun i2 =>
      zif (a2 < (r1.2.1 2 i2 5)) (
        zg (zin a1 40) (
        zder (r1.2.2.2.1 20 0 (zx a1)) 2 (fun i3 =>
        zg (zin a2 97) (
        some ((r1.2.1 29 i3 (zx a2)), r1.2))))) (
        some ((-1 : Int32), r1.2))))))) := zeqi d 125 11 0 [some (zr 10 0), some (zi a1), some (zi a2)] [] S
set_option maxRecDepth 100000 in
theorem eX_held (d : Nat) (a1 : Int32) (S : ZS) : zX_held (d + 1) a1 S =
  (zP_isEnd d a1 S).bind (fun r1 =>
  zif (r1.1 = 0) (
    some ((-1 : Int32), r1.2)) (
    zg (zin a1 116) (
    some ((r1.2.1 39 0 (zx a1)), r1.2)))) := zeqi d 126 11 0 [some (zr 10 0), some (zi a1)] [] S
set_option maxRecDepth 100000 in
theorem eX_book (d : Nat) (a1 : Int32) (a2 : Int32) (S : ZS) : zX_book (d + 1) a1 a2 S =
  (zG_show d a1 a2 S).bind (fun r1 =>
  some (r1.1, r1.2)) := zeqi d 127 11 0 [some (zr 10 0), some (zi a1), some (zi a2)] [] S
set_option maxRecDepth 100000 in
theorem eX_count (d : Nat) (a1 : Int32) (S : ZS) : zX_count (d + 1) a1 S =
  zif (a1 = (0 : Int32)) (
    some ((S.1 10 0 9), S)) (
  zif (a1 = (1 : Int32)) (
    some ((S.1 4 0 0), S)) (
  zif (a1 = (2 : Int32)) (
    some ((S.1 0 0 3), S)) (
  zif (a1 = (3 : Int32)) (
    (zC_callingLines d S).bind (fun r1 =>
    some (r1.1, r1.2))) (
  zif (a1 = (4 : Int32)) (
    (zP_heldWithin d (0 : Int32) (96 : Int32) S).bind (fun r2 =>
    some (r2.1, r2.2))) (
  zif (a1 = (5 : Int32)) (
    some ((S.1 1 0 0), S)) (
  zif (a1 = (6 : Int32)) (
    some ((S.1 1 0 5), S)) (
  zif (a1 = (7 : Int32)) (
    some ((S.1 8 0 1), S)) (
  zif (a1 = (8 : Int32)) (
    zder (S.2.2.1 10 0 7) 7 (fun i3 =>
    some ((S.1 7 i3 2), S))) (
  zif (a1 = (9 : Int32)) (
    zder (S.2.2.1 10 0 7) 7 (fun i4 =>
    some ((S.1 7 i4 8), S))) (
  zif (a1 = (10 : Int32)) (
    some ((S.1 6 0 1), S)) (
  zif (a1 = (11 : Int32)) (
    (zP_allSwitches d S).bind (fun r5 =>
    some (r5.1, r5.2))) (
  zif (a1 = (12 : Int32)) (
    (zP_heldWithin d (100 : Int32) (116 : Int32) S).bind (fun r6 =>
    some (r6.1, r6.2))) (
  some ((-1 : Int32), S)))))))))))))) := zeqi d 128 11 0 [some (zr 10 0), some (zi a1)] [] S
set_option maxRecDepth 100000 in
theorem eX_today (d : Nat)  (S : ZS) : zX_today (d + 1)  S =
  some (((S.1 10 0 9) / (86400 : Int32)), S) := zeqi d 129 11 0 [some (zr 10 0)] [] S
set_option maxRecDepth 100000 in
theorem eX_mayDial (d : Nat) (a1 : Int32) (a2 : Int32) (a3 : Int32) (S : ZS) : zX_mayDial (d + 1) a1 a2 a3 S =
  (zC_isQuiet d a1 S).bind (fun r1 =>
  zif (r1.1 = 0) (
    some ((0 : Int32), r1.2)) (
    zif (a2 < 0) (
      some ((0 : Int32), r1.2)) (
      zif ((99999 : Int32) < a2) (
        some ((0 : Int32), r1.2)) (
        zif (a3 < (1 : Int32)) (
          some ((0 : Int32), r1.2)) (
          zif ((5 : Int32) < a3) (
            some ((0 : Int32), r1.2)) (
            some ((1 : Int32), r1.2))))))) := zeqi d 130 11 0 [some (zr 10 0), some (zi a1), some (zi a2), some (zi a3)] [] S
set_option maxRecDepth 100000 in
theorem eX_blocksNext (d : Nat) (a1 : Int32) (a2 : Int32) (a3 : Int32) (a4 : Int32) (a5 : Int32) (a6 : Int32) (S : ZS) : zX_blocksNext (d + 1) a1 a2 a3 a4 a5 a6 S =
  zg (zin a1 40) (
  (zci (zcall d) 11 [zr 0 0, zo (S.2.2.1 20 0 (zx a1)), zi a2, zi a3] S).bind (fun r1 =>
  (zC_isQuiet d a4 r1.2).bind (fun r2 =>
  zif (r2.1 = 0) (
    zX_blocksNext_50 d a1 (0 : Int32) r2.2) (
    (zX_would d a4 a5 a6 r2.2).bind (fun r3 =>
    zif (r3.1 = (5 : Int32)) (
      zX_blocksNext_50 d a1 (1 : Int32) r3.2) (
      zX_blocksNext_50 d a1 (0 : Int32) r3.2)))))) := zeqi d 131 11 0 [some (zr 10 0), some (zi a1), some (zi a2), some (zi a3), some (zi a4), some (zi a5), some (zi a6), none] [] S
set_option maxRecDepth 100000 in
theorem eX_blocksNext_50 (d : Nat) (a1 : Int32) (s0 : Int32) (S : ZS) : zX_blocksNext_50 d a1 s0 S =
  zg (zin a1 40) (
  (zcv (zcall d) 12 [zr 0 0, zo (S.2.2.1 20 0 (zx a1))] S).bind (fun r1 =>
  zif (s0 = 0) (
    some ((1 : Int32), r1)) (
    some ((0 : Int32), r1)))) := zeqi d 131 11 50 [some (zr 10 0), some (zi a1), none, none, none, none, none, none] [zi s0] S
set_option maxRecDepth 100000 in
theorem eX_digitAt (d : Nat) (a0 : Int32) (a1 : Int32) (a2 : Int32) (S : ZS) : zX_digitAt (d + 1) a0 a1 a2 S =
  zX_digitAt_7 d a1 a0 (a2 + (1 : Int32)) S := zeqi d 132 11 0 [some (zi a0), some (zi a1), some (zi a2), none, none] [] S
set_option maxRecDepth 100000 in
theorem eX_digitAt_7 (d : Nat) (a1 : Int32) (a3 : Int32) (a4 : Int32) (S : ZS) : zX_digitAt_7 d a1 a3 a4 S =
  zif (a1 ≤ a4) (
    some ((a3 - a3 / (10 : Int32) * (10 : Int32)), S)) (
    zX_digitAt_7 d a1 (a3 / (10 : Int32)) (a4 + (1 : Int32)) S) := zeqi d 132 11 7 [none, some (zi a1), none, some (zi a3), some (zi a4)] [] S
set_option maxRecDepth 100000 in
theorem eM_thrown (d : Nat)  (S : ZS) : zM_thrown (d + 1)  S =
  some ((S.1 11 0 0), S) := zeqi d 133 12 0 [some (zr 11 0)] [] S
set_option maxRecDepth 100000 in
theorem eM_within (d : Nat) (a0 : Int32) (a1 : Int32) (a2 : Int32) (S : ZS) : zM_within (d + 1) a0 a1 a2 S =
  zif (a0 < a1) (
    some ((0 : Int32), S)) (
    zif (a2 < a0) (
      some ((0 : Int32), S)) (
      some ((1 : Int32), S))) := zeqi d 134 12 0 [some (zi a0), some (zi a1), some (zi a2)] [] S
set_option maxRecDepth 100000 in
theorem eM_isSwitch (d : Nat) (a1 : Int32) (S : ZS) : zM_isSwitch (d + 1) a1 S =
  zif (a1 < 0) (
    some ((0 : Int32), S)) (
    zif ((96 : Int32) ≤ a1) (
      some ((0 : Int32), S)) (
      zif ((S.1 11 0 2) ≤ (a1 / (8 : Int32))) (
        some ((0 : Int32), S)) (
        zg (zin (a1 / (8 : Int32)) 12) (
        zif ((S.1 60 0 (zx (a1 / (8 : Int32)))) ≤ (a1 - a1 / (8 : Int32) * (8 : Int32))) (
          some ((0 : Int32), S)) (
          some ((1 : Int32), S)))))) := zeqi d 135 12 0 [some (zr 11 0), some (zi a1)] [] S
set_option maxRecDepth 100000 in
theorem eM_isEnd (d : Nat) (a1 : Int32) (S : ZS) : zM_isEnd (d + 1) a1 S =
  (zM_isSwitch d a1 S).bind (fun r1 =>
  zif (r1.1 = 0) (
    (zM_within d a1 (100 : Int32) (115 : Int32) r1.2).bind (fun r2 =>
    zif (r2.1 = 0) (
      some ((0 : Int32), r2.2)) (
      some ((1 : Int32), r2.2)))) (
    some ((1 : Int32), r1.2))) := zeqi d 136 12 0 [some (zr 11 0), some (zi a1)] [] S
set_option maxRecDepth 100000 in
theorem eM_isLine (d : Nat) (a1 : Int32) (S : ZS) : zM_isLine (d + 1) a1 S =
  (zM_within d a1 (0 : Int32) ((S.1 11 0 11) - (1 : Int32)) S).bind (fun r1 =>
  zgb r1.1 (some (r1.1, r1.2))) := zeqi d 137 12 0 [some (zr 11 0), some (zi a1)] [] S
set_option maxRecDepth 100000 in
theorem eM_isSelectors (d : Nat) (a1 : Int32) (S : ZS) : zM_isSelectors (d + 1) a1 S =
  (zM_within d a1 (0 : Int32) ((S.1 11 0 2) - (1 : Int32)) S).bind (fun r1 =>
  zif (r1.1 = 0) (
    some ((0 : Int32), r1.2)) (
    zg (zin a1 12) (
    zif ((r1.2.1 59 0 (zx a1)) = 0) (
      some ((1 : Int32), r1.2)) (
      some ((0 : Int32), r1.2))))) := zeqi d 138 12 0 [some (zr 11 0), some (zi a1)] [] S
set_option maxRecDepth 100000 in
theorem eM_seconds (d : Nat) (a1 : Int32) (S : ZS) : zM_seconds (d + 1) a1 S =
  (zM_within d a1 (0 : Int32) (100000 : Int32) ((zu S.1 11 0 0 (0 : Int32)), S.2)).bind (fun r1 =>
  zif (r1.1 = 0) (
    some ((-1 : Int32), r1.2)) (
    zif (((r1.2.1 11 0 1) + a1) ≤ (999999 : Int32)) (
      some (((zu r1.2.1 11 0 1 ((r1.2.1 11 0 1) + a1)) 11 0 1), ((zu r1.2.1 11 0 1 ((r1.2.1 11 0 1) + a1)), r1.2.2))) (
      some ((-1 : Int32), r1.2)))) := zeqi d 139 12 0 [some (zr 11 0), some (zi a1)] [] S
set_option maxRecDepth 100000 in
theorem eM_rack (d : Nat) (a1 : Int32) (a2 : Int32) (a3 : Int32) (S : ZS) : zM_rack (d + 1) a1 a2 a3 S =
  (zM_within d a1 (0 : Int32) (1 : Int32) ((zu S.1 11 0 0 (0 : Int32)), S.2)).bind (fun r1 =>
  zif (r1.1 = 0) (
    some ((-1 : Int32), r1.2)) (
    (zM_within d a2 (1 : Int32) (8 : Int32) r1.2).bind (fun r2 =>
    zif (r2.1 = 0) (
      some ((-1 : Int32), r2.2)) (
      zif (a1 = 0) (
        zM_rack_35 d a1 a2 a3 (2 : Int32) (1 : Int32) a3 r2.2) (
        zM_rack_35 d a1 a2 a3 (1 : Int32) (1 : Int32) a3 r2.2))))) := zeqi d 140 12 0 [some (zr 11 0), some (zi a1), some (zi a2), some (zi a3)] [] S
set_option maxRecDepth 100000 in
theorem eM_rack_35 (d : Nat) (a1 : Int32) (a2 : Int32) (a3 : Int32) (s0 : Int32) (s1 : Int32) (s2 : Int32) (S : ZS) : zM_rack_35 d a1 a2 a3 s0 s1 s2 S =
  (zM_within d s2 s1 s0 S).bind (fun r1 =>
  zif (r1.1 = 0) (
    some ((-1 : Int32), r1.2)) (
    zif ((r1.2.1 11 0 2) = (12 : Int32)) (
      some ((-1 : Int32), r1.2)) (
      zg (zin (r1.2.1 11 0 2) 12) (
      zg (zin ((zu r1.2.1 59 0 (zx (r1.2.1 11 0 2)) a1) 11 0 2) 12) (
      zg (zin ((zu (zu r1.2.1 59 0 (zx (r1.2.1 11 0 2)) a1) 60 0 (zx ((zu r1.2.1 59 0 (zx (r1.2.1 11 0 2)) a1) 11 0 2)) a2) 11 0 2) 12) (
      some ((((zu (zu (zu (zu r1.2.1 59 0 (zx (r1.2.1 11 0 2)) a1) 60 0 (zx ((zu r1.2.1 59 0 (zx (r1.2.1 11 0 2)) a1) 11 0 2)) a2) 61 0 (zx ((zu (zu r1.2.1 59 0 (zx (r1.2.1 11 0 2)) a1) 60 0 (zx ((zu r1.2.1 59 0 (zx (r1.2.1 11 0 2)) a1) 11 0 2)) a2) 11 0 2)) a3) 11 0 2 (((zu (zu (zu r1.2.1 59 0 (zx (r1.2.1 11 0 2)) a1) 60 0 (zx ((zu r1.2.1 59 0 (zx (r1.2.1 11 0 2)) a1) 11 0 2)) a2) 61 0 (zx ((zu (zu r1.2.1 59 0 (zx (r1.2.1 11 0 2)) a1) 60 0 (zx ((zu r1.2.1 59 0 (zx (r1.2.1 11 0 2)) a1) 11 0 2)) a2) 11 0 2)) a3) 11 0 2) + (1 : Int32))) 11 0 2) - (1 : Int32)), ((zu (zu (zu (zu r1.2.1 59 0 (zx (r1.2.1 11 0 2)) a1) 60 0 (zx ((zu r1.2.1 59 0 (zx (r1.2.1 11 0 2)) a1) 11 0 2)) a2) 61 0 (zx ((zu (zu r1.2.1 59 0 (zx (r1.2.1 11 0 2)) a1) 60 0 (zx ((zu r1.2.1 59 0 (zx (r1.2.1 11 0 2)) a1) 11 0 2)) a2) 11 0 2)) a3) 11 0 2 (((zu (zu (zu r1.2.1 59 0 (zx (r1.2.1 11 0 2)) a1) 60 0 (zx ((zu r1.2.1 59 0 (zx (r1.2.1 11 0 2)) a1) 11 0 2)) a2) 61 0 (zx ((zu (zu r1.2.1 59 0 (zx (r1.2.1 11 0 2)) a1) 60 0 (zx ((zu r1.2.1 59 0 (zx (r1.2.1 11 0 2)) a1) 11 0 2)) a2) 11 0 2)) a3) 11 0 2) + (1 : Int32))), r1.2.2)))))))) := zeqi d 140 12 35 [some (zr 11 0), some (zi a1), some (zi a2), some (zi a3)] [zi s0, zi s1, zi s2] S
set_option maxRecDepth 100000 in
theorem eM_outletAt (d : Nat) (a0 : Int32) (a1 : Int32) (a2 : Int32) (a3 : Int32) (S : ZS) : zM_outletAt (d + 1) a0 a1 a2 a3 S =
  some ((((((80 : Int32) * a0) + ((40 : Int32) * a1)) + ((4 : Int32) * a2)) + a3), S) := zeqi d 141 12 0 [some (zi a0), some (zi a1), some (zi a2), some (zi a3)] [] S
set_option maxRecDepth 100000 in
theorem eM_outlet (d : Nat) (a1 : Int32) (a2 : Int32) (a3 : Int32) (a4 : Int32) (a5 : Int32) (S : ZS) : zM_outlet (d + 1) a1 a2 a3 a4 a5 S =
  (zM_isSelectors d a1 ((zu S.1 11 0 0 (0 : Int32)), S.2)).bind (fun r1 =>
  zif (r1.1 = 0) (
    some ((0 : Int32), r1.2)) (
    zg (zin a1 12) (
    (zM_within d a2 (0 : Int32) ((r1.2.1 61 0 (zx a1)) - (1 : Int32)) r1.2).bind (fun r2 =>
    zif (r2.1 = 0) (
      some ((0 : Int32), r2.2)) (
      (zM_within d a3 (0 : Int32) (9 : Int32) r2.2).bind (fun r3 =>
      zif (r3.1 = 0) (
        some ((0 : Int32), r3.2)) (
        (zM_within d a4 (0 : Int32) (3 : Int32) r3.2).bind (fun r4 =>
        zif (r4.1 = 0) (
          some ((0 : Int32), r4.2)) (
          zif (a5 = (-1 : Int32)) (
            zM_outlet_66 d a1 a2 a3 a4 a5 r4.2) (
            (zM_isEnd d a5 r4.2).bind (fun r5 =>
            zif (r5.1 = 0) (
              some ((0 : Int32), r5.2)) (
              zM_outlet_66 d a1 a2 a3 a4 a5 r5.2)))))))))))) := zeqi d 142 12 0 [some (zr 11 0), some (zi a1), some (zi a2), some (zi a3), some (zi a4), some (zi a5)] [] S
set_option maxRecDepth 100000 in
theorem eM_outlet_66 (d : Nat) (a1 : Int32) (a2 : Int32) (a3 : Int32) (a4 : Int32) (a5 : Int32) (S : ZS) : zM_outlet_66 d a1 a2 a3 a4 a5 S =
  zif (a5 < 0) (
    (zM_outletAt d a1 a2 a3 a4 S).bind (fun r1 =>
    zg (zin r1.1 960) (
    some ((1 : Int32), ((zu r1.2.1 62 0 (zx r1.1) a5), r1.2.2))))) (
    zif ((96 : Int32) ≤ a5) (
      (zM_outletAt d a1 a2 a3 a4 S).bind (fun r2 =>
      zg (zin r2.1 960) (
      some ((1 : Int32), ((zu r2.2.1 62 0 (zx r2.1) a5), r2.2.2))))) (
      zif ((a5 / (8 : Int32)) = a1) (
        some ((0 : Int32), S)) (
        (zM_outletAt d a1 a2 a3 a4 S).bind (fun r3 =>
        zg (zin r3.1 960) (
        some ((1 : Int32), ((zu r3.2.1 62 0 (zx r3.1) a5), r3.2.2))))))) := zeqi d 142 12 66 [some (zr 11 0), some (zi a1), some (zi a2), some (zi a3), some (zi a4), some (zi a5)] [] S
set_option maxRecDepth 100000 in
theorem eM_zone (d : Nat) (a1 : Int32) (a2 : Int32) (S : ZS) : zM_zone (d + 1) a1 a2 S =
  (zM_within d a1 (0 : Int32) (15 : Int32) ((zu S.1 11 0 0 (0 : Int32)), S.2)).bind (fun r1 =>
  zif (r1.1 = 0) (
    some ((0 : Int32), r1.2)) (
    (zM_within d a2 (1 : Int32) (9 : Int32) r1.2).bind (fun r2 =>
    zif (r2.1 = 0) (
      some ((0 : Int32), r2.2)) (
      zg (zin a1 16) (
      some ((1 : Int32), ((zu r2.2.1 63 0 (zx a1) a2), r2.2.2))))))) := zeqi d 143 12 0 [some (zr 11 0), some (zi a1), some (zi a2)] [] S
set_option maxRecDepth 100000 in
theorem eM_lineOf (d : Nat) (a1 : Int32) (a2 : Int32) (S : ZS) : zM_lineOf (d + 1) a1 a2 S =
  zM_lineOf_2 d a1 a2 (0 : Int32) S := zeqi d 144 12 0 [some (zr 11 0), some (zi a1), some (zi a2), none] [] S
set_option maxRecDepth 100000 in
theorem eM_lineOf_2 (d : Nat) (a1 : Int32) (a2 : Int32) (a3 : Int32) (S : ZS) : zM_lineOf_2 d a1 a2 a3 S =
  zif ((S.1 11 0 11) ≤ a3) (
    some ((-1 : Int32), S)) (
    zg (zin a3 40) (
    zif ((S.1 68 0 (zx a3)) = a1) (
      zg (zin a3 40) (
      zif ((S.1 69 0 (zx a3)) = a2) (
        some (a3, S)) (
        zM_lineOf_2 d a1 a2 (a3 + (1 : Int32)) S))) (
      zM_lineOf_2 d a1 a2 (a3 + (1 : Int32)) S))) := zeqi d 144 12 2 [some (zr 11 0), some (zi a1), some (zi a2), some (zi a3)] [] S
set_option maxRecDepth 100000 in
theorem eM_line (d : Nat) (a1 : Int32) (a2 : Int32) (a3 : Int32) (S : ZS) : zM_line (d + 1) a1 a2 a3 S =
  (zM_isSelectors d a1 ((zu S.1 11 0 0 (0 : Int32)), S.2)).bind (fun r1 =>
  zif (r1.1 = 0) (
    some ((-1 : Int32), r1.2)) (
    (zM_within d a2 (0 : Int32) ((r1.2.1 11 0 2) - (1 : Int32)) r1.2).bind (fun r2 =>
    zif (r2.1 = 0) (
      some ((-1 : Int32), r2.2)) (
      zg (zin a2 12) (
      zif ((r2.2.1 59 0 (zx a2)) = (1 : Int32)) (
        (zM_within d a3 (0 : Int32) (99 : Int32) r2.2).bind (fun r3 =>
        zif (r3.1 = 0) (
          some ((-1 : Int32), r3.2)) (
          (zM_lineOf d a2 a3 r3.2).bind (fun r4 =>
          zif (0 ≤ r4.1) (
            some ((-1 : Int32), r4.2)) (
            zif ((r4.2.1 11 0 11) = (40 : Int32)) (
              some ((-1 : Int32), r4.2)) (
              zg (zin (r4.2.1 11 0 11) 40) (
              zg (zin ((zu r4.2.1 67 0 (zx (r4.2.1 11 0 11)) a1) 11 0 11) 40) (
              zg (zin ((zu (zu r4.2.1 67 0 (zx (r4.2.1 11 0 11)) a1) 68 0 (zx ((zu r4.2.1 67 0 (zx (r4.2.1 11 0 11)) a1) 11 0 11)) a2) 11 0 11) 40) (
              some ((((zu (zu (zu (zu r4.2.1 67 0 (zx (r4.2.1 11 0 11)) a1) 68 0 (zx ((zu r4.2.1 67 0 (zx (r4.2.1 11 0 11)) a1) 11 0 11)) a2) 69 0 (zx ((zu (zu r4.2.1 67 0 (zx (r4.2.1 11 0 11)) a1) 68 0 (zx ((zu r4.2.1 67 0 (zx (r4.2.1 11 0 11)) a1) 11 0 11)) a2) 11 0 11)) a3) 11 0 11 (((zu (zu (zu r4.2.1 67 0 (zx (r4.2.1 11 0 11)) a1) 68 0 (zx ((zu r4.2.1 67 0 (zx (r4.2.1 11 0 11)) a1) 11 0 11)) a2) 69 0 (zx ((zu (zu r4.2.1 67 0 (zx (r4.2.1 11 0 11)) a1) 68 0 (zx ((zu r4.2.1 67 0 (zx (r4.2.1 11 0 11)) a1) 11 0 11)) a2) 11 0 11)) a3) 11 0 11) + (1 : Int32))) 11 0 11) - (1 : Int32)), ((zu (zu (zu (zu r4.2.1 67 0 (zx (r4.2.1 11 0 11)) a1) 68 0 (zx ((zu r4.2.1 67 0 (zx (r4.2.1 11 0 11)) a1) 11 0 11)) a2) 69 0 (zx ((zu (zu r4.2.1 67 0 (zx (r4.2.1 11 0 11)) a1) 68 0 (zx ((zu r4.2.1 67 0 (zx (r4.2.1 11 0 11)) a1) 11 0 11)) a2) 11 0 11)) a3) 11 0 11 (((zu (zu (zu r4.2.1 67 0 (zx (r4.2.1 11 0 11)) a1) 68 0 (zx ((zu r4.2.1 67 0 (zx (r4.2.1 11 0 11)) a1) 11 0 11)) a2) 69 0 (zx ((zu (zu r4.2.1 67 0 (zx (r4.2.1 11 0 11)) a1) 68 0 (zx ((zu r4.2.1 67 0 (zx (r4.2.1 11 0 11)) a1) 11 0 11)) a2) 11 0 11)) a3) 11 0 11) + (1 : Int32))), r4.2.2))))))))))) (
        some ((-1 : Int32), r2.2))))))) := zeqi d 145 12 0 [some (zr 11 0), some (zi a1), some (zi a2), some (zi a3)] [] S
set_option maxRecDepth 100000 in
theorem eM_out (d : Nat) (a1 : Int32) (a2 : Int32) (S : ZS) : zM_out (d + 1) a1 a2 S =
  (zM_isSwitch d a1 ((zu S.1 11 0 0 (0 : Int32)), S.2)).bind (fun r1 =>
  zif (r1.1 = 0) (
    some ((0 : Int32), r1.2)) (
    zg (zin a1 116) (
    zg (zbl a2) (
    some ((1 : Int32), ((zu r1.2.1 65 0 (zx a1) a2), r1.2.2)))))) := zeqi d 146 12 0 [some (zr 11 0), some (zi a1), some (zi a2)] [] S
set_option maxRecDepth 100000 in
theorem eM_faulty (d : Nat) (a1 : Int32) (a2 : Int32) (S : ZS) : zM_faulty (d + 1) a1 a2 S =
  (zM_isSwitch d a1 ((zu S.1 11 0 0 (0 : Int32)), S.2)).bind (fun r1 =>
  zif (r1.1 = 0) (
    some ((0 : Int32), r1.2)) (
    zg (zin a1 116) (
    zg (zbl a2) (
    some ((1 : Int32), ((zu r1.2.1 66 0 (zx a1) a2), r1.2.2)))))) := zeqi d 147 12 0 [some (zr 11 0), some (zi a1), some (zi a2)] [] S
set_option maxRecDepth 100000 in
theorem eM_isFree (d : Nat) (a1 : Int32) (S : ZS) : zM_isFree (d + 1) a1 S =
  zg (zin a1 116) (
  zif (0 ≤ (S.1 64 0 (zx a1))) (
    some ((0 : Int32), S)) (
    zg (zin a1 116) (
    zif ((S.1 65 0 (zx a1)) = 0) (
      zg (zin a1 116) (
      zif ((S.1 80 0 (zx a1)) = 0) (
        some ((1 : Int32), S)) (
        some ((0 : Int32), S)))) (
      some ((0 : Int32), S))))) := zeqi d 148 12 0 [some (zr 11 0), some (zi a1)] [] S
set_option maxRecDepth 100000 in
theorem eM_isQuiet (d : Nat) (a1 : Int32) (S : ZS) : zM_isQuiet (d + 1) a1 S =
  zg (zin a1 40) (
  zif ((S.1 70 0 (zx a1)) = 0) (
    zg (zin a1 40) (
    zif ((S.1 81 0 (zx a1)) = 0) (
      some ((1 : Int32), S)) (
      some ((0 : Int32), S)))) (
    some ((0 : Int32), S))) := zeqi d 149 12 0 [some (zr 11 0), some (zi a1)] [] S
set_option maxRecDepth 100000 in
theorem eM_firstFree (d : Nat) (a1 : Int32) (S : ZS) : zM_firstFree (d + 1) a1 S =
  zM_firstFree_2 d a1 (0 : Int32) S := zeqi d 150 12 0 [some (zr 11 0), some (zi a1), none] [] S
set_option maxRecDepth 100000 in
theorem eM_firstFree_2 (d : Nat) (a1 : Int32) (a2 : Int32) (S : ZS) : zM_firstFree_2 d a1 a2 S =
  zg (zin a1 12) (
  zif ((S.1 60 0 (zx a1)) ≤ a2) (
    some ((-1 : Int32), S)) (
    (zM_isFree d (((8 : Int32) * a1) + a2) S).bind (fun r1 =>
    zif (r1.1 = 0) (
      zM_firstFree_2 d a1 (a2 + (1 : Int32)) r1.2) (
      some ((((8 : Int32) * a1) + a2), r1.2))))) := zeqi d 150 12 2 [some (zr 11 0), some (zi a1), some (zi a2)] [] S
set_option maxRecDepth 100000 in
theorem eM_goesTo (d : Nat) (a1 : Int32) (a2 : Int32) (S : ZS) : zM_goesTo (d + 1) a1 a2 S =
  zM_goesTo_11 d a1 a2 (a1 / (8 : Int32)) (0 : Int32) (0 : Int32) S := zeqi d 151 12 0 [some (zr 11 0), some (zi a1), some (zi a2), none, none, none, none] [] S
set_option maxRecDepth 100000 in
theorem eM_goesTo_11 (d : Nat) (a1 : Int32) (a2 : Int32) (a3 : Int32) (a4 : Int32) (a5 : Int32) (S : ZS) : zM_goesTo_11 d a1 a2 a3 a4 a5 S =
  zif ((4 : Int32) ≤ a5) (
    zif (a4 = 0) (
      some ((-2 : Int32), S)) (
      some ((-1 : Int32), S))) (
    zg (zin a3 12) (
    bif zz (S.1 61 0 (zx a3)) then none else
    (zM_outletAt d a3 ((a1 - a1 / (8 : Int32) * (8 : Int32)) - (a1 - a1 / (8 : Int32) * (8 : Int32)) / (S.1 61 0 (zx a3)) * (S.1 61 0 (zx a3))) a2 a5 S).bind (fun r1 =>
    zg (zin r1.1 960) (
    zif (0 ≤ (r1.2.1 62 0 (zx r1.1))) (
      (zM_isFree d (r1.2.1 62 0 (zx r1.1)) r1.2).bind (fun r2 =>
      zif (r2.1 = 0) (
        zM_goesTo_11 d a1 a2 a3 (1 : Int32) (a5 + (1 : Int32)) r2.2) (
        some ((r1.2.1 62 0 (zx r1.1)), r2.2)))) (
      zM_goesTo_11 d a1 a2 a3 a4 (a5 + (1 : Int32)) r1.2))))) := zeqi d 151 12 11 [some (zr 11 0), some (zi a1), some (zi a2), some (zi a3), some (zi a4), some (zi a5), none] [] S
set_option maxRecDepth 100000 in
theorem eM_hold (d : Nat) (a1 : Int32) (a2 : Int32) (S : ZS) : zM_hold (d + 1) a1 a2 S =
  zg (zin a2 116) (
  zg (zin a1 40) (
  zg (zin (((120 : Int32) * a1) + ((zu S.1 64 0 (zx a2) a1) 78 0 (zx a1))) 4800) (
  zg (zin a1 40) (
  zg (zin a1 40) (
  some ((zu (zu (zu S.1 64 0 (zx a2) a1) 79 0 (zx (((120 : Int32) * a1) + ((zu S.1 64 0 (zx a2) a1) 78 0 (zx a1)))) a2) 78 0 (zx a1) (((zu (zu S.1 64 0 (zx a2) a1) 79 0 (zx (((120 : Int32) * a1) + ((zu S.1 64 0 (zx a2) a1) 78 0 (zx a1)))) a2) 78 0 (zx a1)) + (1 : Int32))), S.2)))))) := zeqv d 152 12 0 [some (zr 11 0), some (zi a1), some (zi a2)] [] S
set_option maxRecDepth 100000 in
theorem eM_lift (d : Nat) (a1 : Int32) (S : ZS) : zM_lift (d + 1) a1 S =
  (zM_isLine d a1 ((zu S.1 11 0 0 (0 : Int32)), S.2)).bind (fun r1 =>
  zif (r1.1 = 0) (
    some ((-1 : Int32), r1.2)) (
    zg (zin a1 40) (
    zif ((r1.2.1 70 0 (zx a1)) = 0) (
      zg (zin a1 40) (
      (zM_firstFree d (r1.2.1 67 0 (zx a1)) r1.2).bind (fun r2 =>
      zif (0 ≤ r2.1) (
        zg (zin a1 40) (
        zg (zin a1 40) (
        zg (zin a1 40) (
        zg (zin a1 40) (
        zg (zin a1 40) (
        zg (zin a1 40) (
        (zM_hold d a1 r2.1 ((zu (zu (zu (zu (zu (zu r2.2.1 70 0 (zx a1) (1 : Int32)) 78 0 (zx a1) (0 : Int32)) 73 0 (zx a1) (0 : Int32)) 75 0 (zx a1) (0 : Int32)) 72 0 (zx a1) (-1 : Int32)) 77 0 (zx a1) (-1 : Int32)), r2.2.2)).bind (fun r3 =>
        zg (zin r2.1 116) (
        zif ((r3.1 66 0 (zx r2.1)) = 0) (
          zg (zin a1 40) (
          zg (zin a1 40) (
          some (((zu r3.1 71 0 (zx a1) (0 : Int32)) 71 0 (zx a1)), ((zu r3.1 71 0 (zx a1) (0 : Int32)), r3.2))))) (
          zg (zin a1 40) (
          zg (zin a1 40) (
          some (((zu r3.1 71 0 (zx a1) (2 : Int32)) 71 0 (zx a1)), ((zu r3.1 71 0 (zx a1) (2 : Int32)), r3.2)))))))))))))) (
        some ((7 : Int32), r2.2))))) (
      some ((-1 : Int32), r1.2))))) := zeqi d 153 12 0 [some (zr 11 0), some (zi a1), none] [] S
set_option maxRecDepth 100000 in
theorem eM_head (d : Nat) (a1 : Int32) (S : ZS) : zM_head (d + 1) a1 S =
  zg (zin a1 40) (
  zg (zin ((((120 : Int32) * a1) + (S.1 78 0 (zx a1))) - (1 : Int32)) 4800) (
  some ((S.1 79 0 (zx ((((120 : Int32) * a1) + (S.1 78 0 (zx a1))) - (1 : Int32)))), S))) := zeqi d 154 12 0 [some (zr 11 0), some (zi a1)] [] S
set_option maxRecDepth 100000 in
theorem eM_isEnding (d : Nat) (a1 : Int32) (S : ZS) : zM_isEnding (d + 1) a1 S =
  zif ((100 : Int32) ≤ a1) (
    some ((1 : Int32), S)) (
    zg (zin (a1 / (8 : Int32)) 12) (
    zif ((S.1 59 0 (zx (a1 / (8 : Int32)))) = (1 : Int32)) (
      some ((1 : Int32), S)) (
      some ((0 : Int32), S)))) := zeqi d 155 12 0 [some (zr 11 0), some (zi a1)] [] S
set_option maxRecDepth 100000 in
theorem eM_dial (d : Nat) (a1 : Int32) (a2 : Int32) (S : ZS) : zM_dial (d + 1) a1 a2 S =
  (zM_isLine d a1 ((zu S.1 11 0 0 (0 : Int32)), S.2)).bind (fun r1 =>
  zif (r1.1 = 0) (
    some ((-1 : Int32), r1.2)) (
    zg (zin a1 40) (
    zif ((r1.2.1 70 0 (zx a1)) = (1 : Int32)) (
      (zM_within d a2 (0 : Int32) (9 : Int32) r1.2).bind (fun r2 =>
      zif (r2.1 = 0) (
        some ((-1 : Int32), r2.2)) (
        zg (zin a1 40) (
        zif ((r2.2.1 71 0 (zx a1)) ≤ (1 : Int32)) (
          zg (zin a1 40) (
          zif ((5 : Int32) ≤ (r2.2.1 73 0 (zx a1))) (
            zM_dial_78 d a1 a2 r2.2) (
            zg (zin a1 40) (
            zg (zin (((5 : Int32) * a1) + (r2.2.1 73 0 (zx a1))) 200) (
            zM_dial_78 d a1 a2 ((zu r2.2.1 74 0 (zx (((5 : Int32) * a1) + (r2.2.1 73 0 (zx a1)))) a2), r2.2.2)))))) (
          zg (zin a1 40) (
          some ((r2.2.1 71 0 (zx a1)), r2.2))))))) (
      some ((-1 : Int32), r1.2))))) := zeqi d 156 12 0 [some (zr 11 0), some (zi a1), some (zi a2), none, none] [] S
set_option maxRecDepth 100000 in
theorem eM_dial_78 (d : Nat) (a1 : Int32) (a2 : Int32) (S : ZS) : zM_dial_78 d a1 a2 S =
  zg (zin a1 40) (
  zg (zin a1 40) (
  (zM_head d a1 ((zu S.1 73 0 (zx a1) ((S.1 73 0 (zx a1)) + (1 : Int32))), S.2)).bind (fun r1 =>
  (zM_isEnding d r1.1 r1.2).bind (fun r2 =>
  zif (r2.1 = 0) (
    (zM_goesTo d r1.1 a2 r2.2).bind (fun r3 =>
    zif (r3.1 < 0) (
      zM_dial_122 d a1 r3.1 r3.2) (
      (zM_hold d a1 r3.1 r3.2).bind (fun r4 =>
      zM_dial_122 d a1 r3.1 r4)))) (
    zg (zin a1 40) (
    zg (zin a1 40) (
    zg (zin a1 40) (
    zif (((zu r2.2.1 75 0 (zx a1) ((r2.2.1 75 0 (zx a1)) + (1 : Int32))) 75 0 (zx a1)) = (1 : Int32)) (
      zg (zin a1 40) (
      zM_dial_198 d a1 a2 r1.1 ((zu (zu r2.2.1 75 0 (zx a1) ((r2.2.1 75 0 (zx a1)) + (1 : Int32))) 76 0 (zx a1) a2), r2.2.2))) (
      zM_dial_198 d a1 a2 r1.1 ((zu r2.2.1 75 0 (zx a1) ((r2.2.1 75 0 (zx a1)) + (1 : Int32))), r2.2.2)))))))))) := zeqi d 156 12 78 [some (zr 11 0), some (zi a1), some (zi a2), none, none] [] S
set_option maxRecDepth 100000 in
theorem eM_dial_122 (d : Nat) (a1 : Int32) (a4 : Int32) (S : ZS) : zM_dial_122 d a1 a4 S =
  zif (a4 = (-1 : Int32)) (
    zg (zin a1 40) (
    zg (zin a1 40) (
    some (((zu S.1 71 0 (zx a1) (3 : Int32)) 71 0 (zx a1)), ((zu S.1 71 0 (zx a1) (3 : Int32)), S.2))))) (
    zif (a4 = (-2 : Int32)) (
      zg (zin a1 40) (
      zg (zin a1 40) (
      some (((zu S.1 71 0 (zx a1) (4 : Int32)) 71 0 (zx a1)), ((zu S.1 71 0 (zx a1) (4 : Int32)), S.2))))) (
      zg (zin a4 116) (
      zif ((S.1 66 0 (zx a4)) = 0) (
        zg (zin a1 40) (
        zg (zin a1 40) (
        some (((zu S.1 71 0 (zx a1) (1 : Int32)) 71 0 (zx a1)), ((zu S.1 71 0 (zx a1) (1 : Int32)), S.2))))) (
        zg (zin a1 40) (
        zg (zin a1 40) (
        some (((zu S.1 71 0 (zx a1) (2 : Int32)) 71 0 (zx a1)), ((zu S.1 71 0 (zx a1) (2 : Int32)), S.2)))))))) := zeqi d 156 12 122 [some (zr 11 0), some (zi a1), none, none, some (zi a4)] [] S
set_option maxRecDepth 100000 in
theorem eM_dial_198 (d : Nat) (a1 : Int32) (a2 : Int32) (a3 : Int32) (S : ZS) : zM_dial_198 d a1 a2 a3 S =
  zg (zin a1 40) (
  zif (a3 < (100 : Int32)) (
    zg (zin a1 40) (
    zif ((2 : Int32) ≤ ((zu S.1 71 0 (zx a1) (1 : Int32)) 75 0 (zx a1))) (
      zg (zin a1 40) (
      (zM_lineOf d (a3 / (8 : Int32)) (((10 : Int32) * ((zu S.1 71 0 (zx a1) (1 : Int32)) 76 0 (zx a1))) + a2) ((zu S.1 71 0 (zx a1) (1 : Int32)), S.2)).bind (fun r1 =>
      zif (0 ≤ r1.1) (
        zg (zin r1.1 40) (
        zif ((r1.2.1 70 0 (zx r1.1)) = 0) (
          zM_dial_297 d a1 r1.1 (5 : Int32) a1 r1.2) (
          zM_dial_297 d a1 r1.1 (3 : Int32) a1 r1.2))) (
        zM_dial_297 d a1 r1.1 (4 : Int32) a1 r1.2)))) (
      some ((1 : Int32), ((zu S.1 71 0 (zx a1) (1 : Int32)), S.2))))) (
    zg (zin a1 40) (
    zif (((zu S.1 71 0 (zx a1) (1 : Int32)) 75 0 (zx a1)) = (3 : Int32)) (
      zg (zin a1 40) (
      zg (zin a1 40) (
      some (((zu (zu S.1 71 0 (zx a1) (1 : Int32)) 71 0 (zx a1) (5 : Int32)) 71 0 (zx a1)), ((zu (zu S.1 71 0 (zx a1) (1 : Int32)) 71 0 (zx a1) (5 : Int32)), S.2))))) (
      zg (zin a1 40) (
      some (((zu S.1 71 0 (zx a1) (1 : Int32)) 71 0 (zx a1)), ((zu S.1 71 0 (zx a1) (1 : Int32)), S.2))))))) := zeqi d 156 12 198 [some (zr 11 0), some (zi a1), some (zi a2), some (zi a3), none] [] S
set_option maxRecDepth 100000 in
theorem eM_dial_297 (d : Nat) (a1 : Int32) (a4 : Int32) (s0 : Int32) (s1 : Int32) (S : ZS) : zM_dial_297 d a1 a4 s0 s1 S =
  zg (zin s1 40) (
  zg (zin a1 40) (
  zif (((zu S.1 71 0 (zx s1) s0) 71 0 (zx a1)) = (5 : Int32)) (
    zg (zin a1 40) (
    zg (zin a4 40) (
    some ((5 : Int32), ((zu (zu (zu S.1 71 0 (zx s1) s0) 72 0 (zx a1) a4) 70 0 (zx a4) (2 : Int32)), S.2))))) (
    zg (zin a1 40) (
    some (((zu S.1 71 0 (zx s1) s0) 71 0 (zx a1)), ((zu S.1 71 0 (zx s1) s0), S.2)))))) := zeqi d 156 12 297 [some (zr 11 0), some (zi a1), none, none, some (zi a4)] [zi s0, zi s1, zr 71 0] S
set_option maxRecDepth 100000 in
theorem eM_answer (d : Nat) (a1 : Int32) (S : ZS) : zM_answer (d + 1) a1 S =
  (zM_isLine d a1 ((zu S.1 11 0 0 (0 : Int32)), S.2)).bind (fun r1 =>
  zif (r1.1 = 0) (
    some ((0 : Int32), r1.2)) (
    zg (zin a1 40) (
    zif ((r1.2.1 70 0 (zx a1)) = (1 : Int32)) (
      zg (zin a1 40) (
      zif ((r1.2.1 71 0 (zx a1)) = (5 : Int32)) (
        zg (zin a1 40) (
        zg (zin a1 40) (
        some ((1 : Int32), ((zu (zu r1.2.1 71 0 (zx a1) (6 : Int32)) 77 0 (zx a1) ((zu r1.2.1 71 0 (zx a1) (6 : Int32)) 11 0 1)), r1.2.2))))) (
        some ((0 : Int32), r1.2)))) (
      some ((0 : Int32), r1.2))))) := zeqi d 157 12 0 [some (zr 11 0), some (zi a1)] [] S
set_option maxRecDepth 100000 in
theorem eM_end (d : Nat) (a1 : Int32) (S : ZS) : zM_end (d + 1) a1 S =
  (zM_isLine d a1 ((zu S.1 11 0 0 (0 : Int32)), S.2)).bind (fun r1 =>
  zif (r1.1 = 0) (
    some ((-1 : Int32), r1.2)) (
    zg (zin a1 40) (
    zif ((r1.2.1 70 0 (zx a1)) = (1 : Int32)) (
      zg (zin a1 40) (
      zif ((r1.2.1 71 0 (zx a1)) = (6 : Int32)) (
        (zM_unitsOf d a1 r1.2).bind (fun r2 =>
        zif ((200 : Int32) ≤ (r2.2.1 11 0 27)) (
          zM_end_122 d a1 r2.1 (0 : Int32) r2.2) (
          zg (zin (r2.2.1 11 0 27) 200) (
          zg (zin ((zu r2.2.1 82 0 (zx (r2.2.1 11 0 27)) a1) 11 0 27) 200) (
          zg (zin a1 40) (
          zg (zin ((zu (zu r2.2.1 82 0 (zx (r2.2.1 11 0 27)) a1) 83 0 (zx ((zu r2.2.1 82 0 (zx (r2.2.1 11 0 27)) a1) 11 0 27)) r2.1) 11 0 27) 200) (
          zg (zin ((zu (zu (zu r2.2.1 82 0 (zx (r2.2.1 11 0 27)) a1) 83 0 (zx ((zu r2.2.1 82 0 (zx (r2.2.1 11 0 27)) a1) 11 0 27)) r2.1) 84 0 (zx ((zu (zu r2.2.1 82 0 (zx (r2.2.1 11 0 27)) a1) 83 0 (zx ((zu r2.2.1 82 0 (zx (r2.2.1 11 0 27)) a1) 11 0 27)) r2.1) 11 0 27)) (((zu (zu r2.2.1 82 0 (zx (r2.2.1 11 0 27)) a1) 83 0 (zx ((zu r2.2.1 82 0 (zx (r2.2.1 11 0 27)) a1) 11 0 27)) r2.1) 77 0 (zx a1)) / (86400 : Int32))) 11 0 27) 200) (
          zM_end_122 d a1 r2.1 (0 : Int32) ((zu (zu (zu (zu (zu r2.2.1 82 0 (zx (r2.2.1 11 0 27)) a1) 83 0 (zx ((zu r2.2.1 82 0 (zx (r2.2.1 11 0 27)) a1) 11 0 27)) r2.1) 84 0 (zx ((zu (zu r2.2.1 82 0 (zx (r2.2.1 11 0 27)) a1) 83 0 (zx ((zu r2.2.1 82 0 (zx (r2.2.1 11 0 27)) a1) 11 0 27)) r2.1) 11 0 27)) (((zu (zu r2.2.1 82 0 (zx (r2.2.1 11 0 27)) a1) 83 0 (zx ((zu r2.2.1 82 0 (zx (r2.2.1 11 0 27)) a1) 11 0 27)) r2.1) 77 0 (zx a1)) / (86400 : Int32))) 85 0 (zx ((zu (zu (zu r2.2.1 82 0 (zx (r2.2.1 11 0 27)) a1) 83 0 (zx ((zu r2.2.1 82 0 (zx (r2.2.1 11 0 27)) a1) 11 0 27)) r2.1) 84 0 (zx ((zu (zu r2.2.1 82 0 (zx (r2.2.1 11 0 27)) a1) 83 0 (zx ((zu r2.2.1 82 0 (zx (r2.2.1 11 0 27)) a1) 11 0 27)) r2.1) 11 0 27)) (((zu (zu r2.2.1 82 0 (zx (r2.2.1 11 0 27)) a1) 83 0 (zx ((zu r2.2.1 82 0 (zx (r2.2.1 11 0 27)) a1) 11 0 27)) r2.1) 77 0 (zx a1)) / (86400 : Int32))) 11 0 27)) (((zu (zu (zu r2.2.1 82 0 (zx (r2.2.1 11 0 27)) a1) 83 0 (zx ((zu r2.2.1 82 0 (zx (r2.2.1 11 0 27)) a1) 11 0 27)) r2.1) 84 0 (zx ((zu (zu r2.2.1 82 0 (zx (r2.2.1 11 0 27)) a1) 83 0 (zx ((zu r2.2.1 82 0 (zx (r2.2.1 11 0 27)) a1) 11 0 27)) r2.1) 11 0 27)) (((zu (zu r2.2.1 82 0 (zx (r2.2.1 11 0 27)) a1) 83 0 (zx ((zu r2.2.1 82 0 (zx (r2.2.1 11 0 27)) a1) 11 0 27)) r2.1) 77 0 (zx a1)) / (86400 : Int32))) 11 0 1) / (86400 : Int32))) 11 0 27 (((zu (zu (zu (zu r2.2.1 82 0 (zx (r2.2.1 11 0 27)) a1) 83 0 (zx ((zu r2.2.1 82 0 (zx (r2.2.1 11 0 27)) a1) 11 0 27)) r2.1) 84 0 (zx ((zu (zu r2.2.1 82 0 (zx (r2.2.1 11 0 27)) a1) 83 0 (zx ((zu r2.2.1 82 0 (zx (r2.2.1 11 0 27)) a1) 11 0 27)) r2.1) 11 0 27)) (((zu (zu r2.2.1 82 0 (zx (r2.2.1 11 0 27)) a1) 83 0 (zx ((zu r2.2.1 82 0 (zx (r2.2.1 11 0 27)) a1) 11 0 27)) r2.1) 77 0 (zx a1)) / (86400 : Int32))) 85 0 (zx ((zu (zu (zu r2.2.1 82 0 (zx (r2.2.1 11 0 27)) a1) 83 0 (zx ((zu r2.2.1 82 0 (zx (r2.2.1 11 0 27)) a1) 11 0 27)) r2.1) 84 0 (zx ((zu (zu r2.2.1 82 0 (zx (r2.2.1 11 0 27)) a1) 83 0 (zx ((zu r2.2.1 82 0 (zx (r2.2.1 11 0 27)) a1) 11 0 27)) r2.1) 11 0 27)) (((zu (zu r2.2.1 82 0 (zx (r2.2.1 11 0 27)) a1) 83 0 (zx ((zu r2.2.1 82 0 (zx (r2.2.1 11 0 27)) a1) 11 0 27)) r2.1) 77 0 (zx a1)) / (86400 : Int32))) 11 0 27)) (((zu (zu (zu r2.2.1 82 0 (zx (r2.2.1 11 0 27)) a1) 83 0 (zx ((zu r2.2.1 82 0 (zx (r2.2.1 11 0 27)) a1) 11 0 27)) r2.1) 84 0 (zx ((zu (zu r2.2.1 82 0 (zx (r2.2.1 11 0 27)) a1) 83 0 (zx ((zu r2.2.1 82 0 (zx (r2.2.1 11 0 27)) a1) 11 0 27)) r2.1) 11 0 27)) (((zu (zu r2.2.1 82 0 (zx (r2.2.1 11 0 27)) a1) 83 0 (zx ((zu r2.2.1 82 0 (zx (r2.2.1 11 0 27)) a1) 11 0 27)) r2.1) 77 0 (zx a1)) / (86400 : Int32))) 11 0 1) / (86400 : Int32))) 11 0 27) + (1 : Int32))), r2.2.2))))))))) (
        zM_end_122 d a1 (0 : Int32) (0 : Int32) r1.2))) (
      some ((-1 : Int32), r1.2))))) := zeqi d 158 12 0 [some (zr 11 0), some (zi a1), none, none] [] S
set_option maxRecDepth 100000 in
theorem eM_end_122 (d : Nat) (a1 : Int32) (a2 : Int32) (a3 : Int32) (S : ZS) : zM_end_122 d a1 a2 a3 S =
  zg (zin a1 40) (
  zif ((S.1 78 0 (zx a1)) ≤ a3) (
    zg (zin a1 40) (
    zg (zin a1 40) (
    zif (((zu S.1 78 0 (zx a1) (0 : Int32)) 72 0 (zx a1)) < 0) (
      zg (zin a1 40) (
      some (a2, ((zu (zu S.1 78 0 (zx a1) (0 : Int32)) 70 0 (zx a1) (0 : Int32)), S.2)))) (
      zg (zin a1 40) (
      zg (zin ((zu S.1 78 0 (zx a1) (0 : Int32)) 72 0 (zx a1)) 40) (
      zg (zin a1 40) (
      some (a2, ((zu (zu (zu S.1 78 0 (zx a1) (0 : Int32)) 70 0 (zx ((zu S.1 78 0 (zx a1) (0 : Int32)) 72 0 (zx a1))) (0 : Int32)) 70 0 (zx a1) (0 : Int32)), S.2))))))))) (
    zg (zin (((120 : Int32) * a1) + a3) 4800) (
    zg (zin (S.1 79 0 (zx (((120 : Int32) * a1) + a3))) 116) (
    zM_end_122 d a1 a2 (a3 + (1 : Int32)) ((zu S.1 64 0 (zx (S.1 79 0 (zx (((120 : Int32) * a1) + a3)))) (-1 : Int32)), S.2))))) := zeqi d 158 12 122 [some (zr 11 0), some (zi a1), some (zi a2), some (zi a3)] [] S
set_option maxRecDepth 100000 in
theorem eM_word (d : Nat) (a1 : Int32) (a2 : Int32) (S : ZS) : zM_word (d + 1) a1 a2 S =
  (zM_within d a1 (0 : Int32) (((zu S.1 11 0 0 (0 : Int32)) 11 0 27) - (1 : Int32)) ((zu S.1 11 0 0 (0 : Int32)), S.2)).bind (fun r1 =>
  zif (r1.1 = 0) (
    some ((0 : Int32), r1.2)) (
    (zM_within d a2 (0 : Int32) (9999 : Int32) r1.2).bind (fun r2 =>
    zif (r2.1 = 0) (
      some ((0 : Int32), r2.2)) (
      zif ((r2.2.1 11 0 32) = (200 : Int32)) (
        some ((0 : Int32), r2.2)) (
        zg (zin (r2.2.1 11 0 32) 200) (
        zg (zin ((zu r2.2.1 86 0 (zx (r2.2.1 11 0 32)) a1) 11 0 32) 200) (
        zg (zin ((zu (zu r2.2.1 86 0 (zx (r2.2.1 11 0 32)) a1) 87 0 (zx ((zu r2.2.1 86 0 (zx (r2.2.1 11 0 32)) a1) 11 0 32)) a2) 11 0 32) 200) (
        some ((1 : Int32), ((zu (zu (zu (zu r2.2.1 86 0 (zx (r2.2.1 11 0 32)) a1) 87 0 (zx ((zu r2.2.1 86 0 (zx (r2.2.1 11 0 32)) a1) 11 0 32)) a2) 88 0 (zx ((zu (zu r2.2.1 86 0 (zx (r2.2.1 11 0 32)) a1) 87 0 (zx ((zu r2.2.1 86 0 (zx (r2.2.1 11 0 32)) a1) 11 0 32)) a2) 11 0 32)) (((zu (zu r2.2.1 86 0 (zx (r2.2.1 11 0 32)) a1) 87 0 (zx ((zu r2.2.1 86 0 (zx (r2.2.1 11 0 32)) a1) 11 0 32)) a2) 11 0 1) / (86400 : Int32))) 11 0 32 (((zu (zu (zu r2.2.1 86 0 (zx (r2.2.1 11 0 32)) a1) 87 0 (zx ((zu r2.2.1 86 0 (zx (r2.2.1 11 0 32)) a1) 11 0 32)) a2) 88 0 (zx ((zu (zu r2.2.1 86 0 (zx (r2.2.1 11 0 32)) a1) 87 0 (zx ((zu r2.2.1 86 0 (zx (r2.2.1 11 0 32)) a1) 11 0 32)) a2) 11 0 32)) (((zu (zu r2.2.1 86 0 (zx (r2.2.1 11 0 32)) a1) 87 0 (zx ((zu r2.2.1 86 0 (zx (r2.2.1 11 0 32)) a1) 11 0 32)) a2) 11 0 1) / (86400 : Int32))) 11 0 32) + (1 : Int32))), r2.2.2)))))))))) := zeqi d 159 12 0 [some (zr 11 0), some (zi a1), some (zi a2)] [] S
set_option maxRecDepth 100000 in
theorem eM_unitsBy (d : Nat) (a1 : Int32) (a2 : Int32) (S : ZS) : zM_unitsBy (d + 1) a1 a2 S =
  zg (zin a1 200) (
  zM_unitsBy_10 d a1 a2 (S.1 83 0 (zx a1)) (0 : Int32) S) := zeqi d 160 12 0 [some (zr 11 0), some (zi a1), some (zi a2), none, none] [] S
set_option maxRecDepth 100000 in
theorem eM_unitsBy_10 (d : Nat) (a1 : Int32) (a2 : Int32) (a3 : Int32) (a4 : Int32) (S : ZS) : zM_unitsBy_10 d a1 a2 a3 a4 S =
  zif ((S.1 11 0 32) ≤ a4) (
    some (a3, S)) (
    zg (zin a4 200) (
    zif ((S.1 86 0 (zx a4)) = a1) (
      zg (zin a4 200) (
      zif (a2 < (S.1 88 0 (zx a4))) (
        zM_unitsBy_10 d a1 a2 a3 (a4 + (1 : Int32)) S) (
        zg (zin a4 200) (
        zM_unitsBy_10 d a1 a2 (S.1 87 0 (zx a4)) (a4 + (1 : Int32)) S)))) (
      zM_unitsBy_10 d a1 a2 a3 (a4 + (1 : Int32)) S))) := zeqi d 160 12 10 [some (zr 11 0), some (zi a1), some (zi a2), some (zi a3), some (zi a4)] [] S
set_option maxRecDepth 100000 in
theorem eM_bill (d : Nat) (a1 : Int32) (a2 : Int32) (a3 : Int32) (a4 : Int32) (S : ZS) : zM_bill (d + 1) a1 a2 a3 a4 S =
  (zM_isLine d a1 ((zu S.1 11 0 0 (0 : Int32)), S.2)).bind (fun r1 =>
  zif (r1.1 = 0) (
    some ((-1 : Int32), r1.2)) (
    (zM_within d a2 (0 : Int32) (11 : Int32) r1.2).bind (fun r2 =>
    zif (r2.1 = 0) (
      some ((-1 : Int32), r2.2)) (
      (zM_within d a3 a2 (11 : Int32) r2.2).bind (fun r3 =>
      zif (r3.1 = 0) (
        some ((-1 : Int32), r3.2)) (
        (zM_within d a4 (0 : Int32) ((r3.2.1 11 0 1) / (86400 : Int32)) r3.2).bind (fun r4 =>
        zif (r4.1 = 0) (
          some ((-1 : Int32), r4.2)) (
          zM_bill_58 d a1 a2 a3 a4 (0 : Int32) (0 : Int32) r4.2)))))))) := zeqi d 161 12 0 [some (zr 11 0), some (zi a1), some (zi a2), some (zi a3), some (zi a4), none, none] [] S
set_option maxRecDepth 100000 in
theorem eM_bill_58 (d : Nat) (a1 : Int32) (a2 : Int32) (a3 : Int32) (a4 : Int32) (a5 : Int32) (a6 : Int32) (S : ZS) : zM_bill_58 d a1 a2 a3 a4 a5 a6 S =
  zif ((S.1 11 0 27) ≤ a6) (
    some (a5, S)) (
    zg (zin a6 200) (
    zif ((S.1 82 0 (zx a6)) = a1) (
      zg (zin a6 200) (
      (zM_within d (S.1 84 0 (zx a6)) a2 a3 S).bind (fun r1 =>
      zif (r1.1 = 0) (
        zM_bill_58 d a1 a2 a3 a4 a5 (a6 + (1 : Int32)) r1.2) (
        zg (zin a6 200) (
        zif (a4 < (r1.2.1 85 0 (zx a6))) (
          zM_bill_58 d a1 a2 a3 a4 a5 (a6 + (1 : Int32)) r1.2) (
          (zM_unitsBy d a6 a4 r1.2).bind (fun r2 =>
          zM_bill_58 d a1 a2 a3 a4 (a5 + r2.1) (a6 + (1 : Int32)) r2.2))))))) (
      zM_bill_58 d a1 a2 a3 a4 a5 (a6 + (1 : Int32)) S))) := zeqi d 161 12 58 [some (zr 11 0), some (zi a1), some (zi a2), some (zi a3), some (zi a4), some (zi a5), some (zi a6)] [] S
set_option maxRecDepth 100000 in
theorem eM_feed (d : Nat) (w1 : Int64) (w3 : Int64) (w5 : Int64) (S : ZS) : zM_feed (d + 1) w1 w3 w5 S =
  zM_feed_8 d w1 w3 w5 (0 : Int32) ((zu S.1 11 0 0 (0 : Int32)), S.2) := zeqi d 162 12 0 [some (zr 11 0), some (zl w1), none, some (zl w3), none, some (zl w5), none, none, none, none, none] [] S
set_option maxRecDepth 100000 in
theorem eM_feed_8 (d : Nat) (a1 : Int64) (a3 : Int64) (a5 : Int64) (a7 : Int32) (S : ZS) : zM_feed_8 d a1 a3 a5 a7 S =
  zif ((24 : Int32) ≤ a7) (
    some ((S.1 11 0 36), S)) (
    zif ((8 : Int32) ≤ a7) (
      zif ((16 : Int32) ≤ a7) (
        zM_feed_39 d a1 a3 a5 a7 a5 S) (
        zM_feed_39 d a1 a3 a5 a7 a3 S)) (
      zM_feed_39 d a1 a3 a5 a7 a1 S)) := zeqi d 162 12 8 [some (zr 11 0), some (zl a1), none, some (zl a3), none, some (zl a5), none, some (zi a7), none, none, none] [] S
set_option maxRecDepth 100000 in
theorem eM_feed_39 (d : Nat) (a1 : Int64) (a3 : Int64) (a5 : Int64) (a7 : Int32) (s0 : Int64) (S : ZS) : zM_feed_39 d a1 a3 a5 a7 s0 S =
  zif ((1000 : Int32) ≤ (S.1 11 0 36)) (
    zM_feed_8 d a1 a3 a5 (a7 + (1 : Int32)) S) (
    zif (((s0.toUInt64 >>> (((56 : Int32) - ((8 : Int32) * (a7 &&& (7 : Int32)))).toInt64.toUInt64 &&& Int64.toUInt64 63)).toInt64 &&& (255 : Int64)).toInt32 = (10 : Int32)) (
      zg (zin (S.1 11 0 36) 1000) (
      zM_feed_8 d a1 a3 a5 (a7 + (1 : Int32)) ((zu (zu S.1 89 0 (zx (S.1 11 0 36)) ((s0.toUInt64 >>> (((56 : Int32) - ((8 : Int32) * (a7 &&& (7 : Int32)))).toInt64.toUInt64 &&& Int64.toUInt64 63)).toInt64 &&& (255 : Int64)).toInt32) 11 0 36 (((zu S.1 89 0 (zx (S.1 11 0 36)) ((s0.toUInt64 >>> (((56 : Int32) - ((8 : Int32) * (a7 &&& (7 : Int32)))).toInt64.toUInt64 &&& Int64.toUInt64 63)).toInt64 &&& (255 : Int64)).toInt32) 11 0 36) + (1 : Int32))), S.2))) (
      zif (((s0.toUInt64 >>> (((56 : Int32) - ((8 : Int32) * (a7 &&& (7 : Int32)))).toInt64.toUInt64 &&& Int64.toUInt64 63)).toInt64 &&& (255 : Int64)).toInt32 < (32 : Int32)) (
        zM_feed_8 d a1 a3 a5 (a7 + (1 : Int32)) S) (
        zif ((126 : Int32) < ((s0.toUInt64 >>> (((56 : Int32) - ((8 : Int32) * (a7 &&& (7 : Int32)))).toInt64.toUInt64 &&& Int64.toUInt64 63)).toInt64 &&& (255 : Int64)).toInt32) (
          zM_feed_8 d a1 a3 a5 (a7 + (1 : Int32)) S) (
          zg (zin (S.1 11 0 36) 1000) (
          zM_feed_8 d a1 a3 a5 (a7 + (1 : Int32)) ((zu (zu S.1 89 0 (zx (S.1 11 0 36)) ((s0.toUInt64 >>> (((56 : Int32) - ((8 : Int32) * (a7 &&& (7 : Int32)))).toInt64.toUInt64 &&& Int64.toUInt64 63)).toInt64 &&& (255 : Int64)).toInt32) 11 0 36 (((zu S.1 89 0 (zx (S.1 11 0 36)) ((s0.toUInt64 >>> (((56 : Int32) - ((8 : Int32) * (a7 &&& (7 : Int32)))).toInt64.toUInt64 &&& Int64.toUInt64 63)).toInt64 &&& (255 : Int64)).toInt32) 11 0 36) + (1 : Int32))), S.2)))))) := zeqi d 162 12 39 [some (zr 11 0), some (zl a1), none, some (zl a3), none, some (zl a5), none, some (zi a7), none, none, none] [zl s0] S
set_option maxRecDepth 100000 in
theorem eM_signAt (d : Nat) (a1 : Int32) (S : ZS) : zM_signAt (d + 1) a1 S =
  zif ((S.1 11 0 38) ≤ a1) (
    some ((0 : Int32), S)) (
    zg (zin a1 1000) (
    some ((S.1 89 0 (zx a1)), S))) := zeqi d 163 12 0 [some (zr 11 0), some (zi a1)] [] S
set_option maxRecDepth 100000 in
theorem eM_next (d : Nat)  (S : ZS) : zM_next (d + 1)  S =
  zif ((S.1 11 0 38) ≤ (S.1 11 0 39)) (
    zM_next_52 d S) (
    zg (zin (S.1 11 0 39) 1000) (
    zif ((S.1 89 0 (zx (S.1 11 0 39))) = (32 : Int32)) (
      zM_next_0 d ((zu S.1 11 0 39 ((S.1 11 0 39) + (1 : Int32))), S.2)) (
      zg (zin (S.1 11 0 39) 1000) (
      zif ((S.1 89 0 (zx (S.1 11 0 39))) = (10 : Int32)) (
        zM_next_0 d ((zu S.1 11 0 39 ((S.1 11 0 39) + (1 : Int32))), S.2)) (
        zM_next_52 d S))))) := zeqv d 164 12 0 [some (zr 11 0), none] [] S
set_option maxRecDepth 100000 in
theorem eM_next_0 (d : Nat)  (S : ZS) : zM_next_0 d  S =
  zif ((S.1 11 0 38) ≤ (S.1 11 0 39)) (
    zM_next_52 d S) (
    zg (zin (S.1 11 0 39) 1000) (
    zif ((S.1 89 0 (zx (S.1 11 0 39))) = (32 : Int32)) (
      zM_next_0 d ((zu S.1 11 0 39 ((S.1 11 0 39) + (1 : Int32))), S.2)) (
      zg (zin (S.1 11 0 39) 1000) (
      zif ((S.1 89 0 (zx (S.1 11 0 39))) = (10 : Int32)) (
        zM_next_0 d ((zu S.1 11 0 39 ((S.1 11 0 39) + (1 : Int32))), S.2)) (
        zM_next_52 d S))))) := zeqv d 164 12 0 [some (zr 11 0), none] [] S
set_option maxRecDepth 100000 in
theorem eM_next_52 (d : Nat)  (S : ZS) : zM_next_52 d  S =
  zif (((zu (zu S.1 11 0 40 (S.1 11 0 39)) 11 0 43 (0 : Int32)) 11 0 39) = ((zu (zu S.1 11 0 40 (S.1 11 0 39)) 11 0 43 (0 : Int32)) 11 0 38)) (
    some ((zu (zu (zu S.1 11 0 40 (S.1 11 0 39)) 11 0 43 (0 : Int32)) 11 0 41 (0 : Int32)), (zu S.2.1 11 0 42 (0 : Int64)), S.2.2)) (
    zg (zin ((zu (zu S.1 11 0 40 (S.1 11 0 39)) 11 0 43 (0 : Int32)) 11 0 39) 1000) (
    zif (((zu (zu S.1 11 0 40 (S.1 11 0 39)) 11 0 43 (0 : Int32)) 89 0 (zx ((zu (zu S.1 11 0 40 (S.1 11 0 39)) 11 0 43 (0 : Int32)) 11 0 39))) < (97 : Int32)) (
      zif (((zu (zu S.1 11 0 40 (S.1 11 0 39)) 11 0 43 (0 : Int32)) 89 0 (zx ((zu (zu S.1 11 0 40 (S.1 11 0 39)) 11 0 43 (0 : Int32)) 11 0 39))) < (48 : Int32)) (
        zM_next_322 d ((zu (zu S.1 11 0 40 (S.1 11 0 39)) 11 0 43 (0 : Int32)) 89 0 (zx ((zu (zu S.1 11 0 40 (S.1 11 0 39)) 11 0 43 (0 : Int32)) 11 0 39))) ((zu (zu S.1 11 0 40 (S.1 11 0 39)) 11 0 43 (0 : Int32)), (zu S.2.1 11 0 42 (0 : Int64)), S.2.2)) (
        zif ((57 : Int32) < ((zu (zu S.1 11 0 40 (S.1 11 0 39)) 11 0 43 (0 : Int32)) 89 0 (zx ((zu (zu S.1 11 0 40 (S.1 11 0 39)) 11 0 43 (0 : Int32)) 11 0 39)))) (
          zM_next_322 d ((zu (zu S.1 11 0 40 (S.1 11 0 39)) 11 0 43 (0 : Int32)) 89 0 (zx ((zu (zu S.1 11 0 40 (S.1 11 0 39)) 11 0 43 (0 : Int32)) 11 0 39))) ((zu (zu S.1 11 0 40 (S.1 11 0 39)) 11 0 43 (0 : Int32)), (zu S.2.1 11 0 42 (0 : Int64)), S.2.2)) (
          zM_next_224 d ((zu (zu S.1 11 0 40 (S.1 11 0 39)) 11 0 43 (0 : Int32)), (zu S.2.1 11 0 42 (0 : Int64)), S.2.2)))) (
      zif ((122 : Int32) < ((zu (zu S.1 11 0 40 (S.1 11 0 39)) 11 0 43 (0 : Int32)) 89 0 (zx ((zu (zu S.1 11 0 40 (S.1 11 0 39)) 11 0 43 (0 : Int32)) 11 0 39)))) (
        zif (((zu (zu S.1 11 0 40 (S.1 11 0 39)) 11 0 43 (0 : Int32)) 89 0 (zx ((zu (zu S.1 11 0 40 (S.1 11 0 39)) 11 0 43 (0 : Int32)) 11 0 39))) < (48 : Int32)) (
          zM_next_322 d ((zu (zu S.1 11 0 40 (S.1 11 0 39)) 11 0 43 (0 : Int32)) 89 0 (zx ((zu (zu S.1 11 0 40 (S.1 11 0 39)) 11 0 43 (0 : Int32)) 11 0 39))) ((zu (zu S.1 11 0 40 (S.1 11 0 39)) 11 0 43 (0 : Int32)), (zu S.2.1 11 0 42 (0 : Int64)), S.2.2)) (
          zif ((57 : Int32) < ((zu (zu S.1 11 0 40 (S.1 11 0 39)) 11 0 43 (0 : Int32)) 89 0 (zx ((zu (zu S.1 11 0 40 (S.1 11 0 39)) 11 0 43 (0 : Int32)) 11 0 39)))) (
            zM_next_322 d ((zu (zu S.1 11 0 40 (S.1 11 0 39)) 11 0 43 (0 : Int32)) 89 0 (zx ((zu (zu S.1 11 0 40 (S.1 11 0 39)) 11 0 43 (0 : Int32)) 11 0 39))) ((zu (zu S.1 11 0 40 (S.1 11 0 39)) 11 0 43 (0 : Int32)), (zu S.2.1 11 0 42 (0 : Int64)), S.2.2)) (
            zM_next_224 d ((zu (zu S.1 11 0 40 (S.1 11 0 39)) 11 0 43 (0 : Int32)), (zu S.2.1 11 0 42 (0 : Int64)), S.2.2)))) (
        zM_next_109 d ((zu (zu S.1 11 0 40 (S.1 11 0 39)) 11 0 43 (0 : Int32)), (zu S.2.1 11 0 42 (0 : Int64)), S.2.2))))) := zeqv d 164 12 52 [some (zr 11 0), none] [] S
set_option maxRecDepth 100000 in
theorem eM_next_109 (d : Nat)  (S : ZS) : zM_next_109 d  S =
  (zM_signAt d (S.1 11 0 39) S).bind (fun r1 =>
  zif (r1.1 < (97 : Int32)) (
    zM_next_188 d r1.2) (
    (zM_signAt d (r1.2.1 11 0 39) r1.2).bind (fun r2 =>
    zif ((122 : Int32) < r2.1) (
      zM_next_188 d r2.2) (
      zif ((8 : Int32) ≤ ((r2.2.1 11 0 39) - (r2.2.1 11 0 40))) (
        zM_next_109 d ((zu r2.2.1 11 0 39 ((r2.2.1 11 0 39) + (1 : Int32))), r2.2.2)) (
        (zM_signAt d (r2.2.1 11 0 39) r2.2).bind (fun r3 =>
        zM_next_109 d ((zu r3.2.1 11 0 39 ((r3.2.1 11 0 39) + (1 : Int32))), (zu r3.2.2.1 11 0 42 ((((r2.2.2.1 11 0 42) * (27 : Int64)) + r3.1.toInt64) - (96 : Int64))), r3.2.2.2))))))) := zeqv d 164 12 109 [some (zr 11 0), none] [] S
set_option maxRecDepth 100000 in
theorem eM_next_188 (d : Nat)  (S : ZS) : zM_next_188 d  S =
  zif (((S.1 11 0 39) - (S.1 11 0 40)) ≤ (8 : Int32)) (
    some ((zu S.1 11 0 41 (1 : Int32)), S.2)) (
    some ((zu S.1 11 0 41 (4 : Int32)), S.2)) := zeqv d 164 12 188 [some (zr 11 0), none] [] S
set_option maxRecDepth 100000 in
theorem eM_next_224 (d : Nat)  (S : ZS) : zM_next_224 d  S =
  (zM_signAt d (S.1 11 0 39) S).bind (fun r1 =>
  zif (r1.1 < (48 : Int32)) (
    zM_next_299 d r1.2) (
    (zM_signAt d (r1.2.1 11 0 39) r1.2).bind (fun r2 =>
    zif ((57 : Int32) < r2.1) (
      zM_next_299 d r2.2) (
      zif ((4 : Int32) ≤ ((r2.2.1 11 0 39) - (r2.2.1 11 0 40))) (
        zM_next_224 d ((zu r2.2.1 11 0 39 ((r2.2.1 11 0 39) + (1 : Int32))), r2.2.2)) (
        (zM_signAt d (r2.2.1 11 0 39) r2.2).bind (fun r3 =>
        zM_next_224 d ((zu (zu r3.2.1 11 0 43 ((((r2.2.1 11 0 43) * (10 : Int32)) + r3.1) - (48 : Int32))) 11 0 39 (((zu r3.2.1 11 0 43 ((((r2.2.1 11 0 43) * (10 : Int32)) + r3.1) - (48 : Int32))) 11 0 39) + (1 : Int32))), r3.2.2))))))) := zeqv d 164 12 224 [some (zr 11 0), none] [] S
set_option maxRecDepth 100000 in
theorem eM_next_299 (d : Nat)  (S : ZS) : zM_next_299 d  S =
  zif (((S.1 11 0 39) - (S.1 11 0 40)) ≤ (4 : Int32)) (
    some ((zu S.1 11 0 41 (2 : Int32)), S.2)) (
    some ((zu S.1 11 0 41 (4 : Int32)), S.2)) := zeqv d 164 12 299 [some (zr 11 0), none] [] S
set_option maxRecDepth 100000 in
theorem eM_next_322 (d : Nat) (a1 : Int32) (S : ZS) : zM_next_322 d a1 S =
  zif (a1 < (40 : Int32)) (
    zM_next_345 d a1 ((zu S.1 11 0 39 ((S.1 11 0 39) + (1 : Int32))), S.2)) (
    zif (a1 ≤ (43 : Int32)) (
      some ((zu (zu S.1 11 0 39 ((S.1 11 0 39) + (1 : Int32))) 11 0 41 (3 : Int32)), S.2)) (
      zM_next_345 d a1 ((zu S.1 11 0 39 ((S.1 11 0 39) + (1 : Int32))), S.2))) := zeqv d 164 12 322 [some (zr 11 0), some (zi a1)] [] S
set_option maxRecDepth 100000 in
theorem eM_next_345 (d : Nat) (a1 : Int32) (S : ZS) : zM_next_345 d a1 S =
  zif (a1 = (45 : Int32)) (
    some ((zu S.1 11 0 41 (3 : Int32)), S.2)) (
    zif (a1 < (59 : Int32)) (
      some ((zu S.1 11 0 41 (4 : Int32)), S.2)) (
      zif ((61 : Int32) < a1) (
        some ((zu S.1 11 0 41 (4 : Int32)), S.2)) (
        some ((zu S.1 11 0 41 (3 : Int32)), S.2)))) := zeqv d 164 12 345 [none, some (zi a1)] [zr 11 0] S
set_option maxRecDepth 100000 in
theorem eM_isWord (d : Nat) (w1 : Int64) (S : ZS) : zM_isWord (d + 1) w1 S =
  zif ((S.1 11 0 41) = (1 : Int32)) (
    zif ((lg_cmp (S.2.1 11 0 42) w1) = 0) (
      some ((1 : Int32), S)) (
      some ((0 : Int32), S))) (
    some ((0 : Int32), S)) := zeqi d 165 12 0 [some (zr 11 0), some (zl w1), none] [] S
set_option maxRecDepth 100000 in
theorem eM_isSign (d : Nat) (a1 : Int32) (S : ZS) : zM_isSign (d + 1) a1 S =
  zif ((S.1 11 0 41) = (3 : Int32)) (
    zg (zin (S.1 11 0 40) 1000) (
    zif ((S.1 89 0 (zx (S.1 11 0 40))) = a1) (
      some ((1 : Int32), S)) (
      some ((0 : Int32), S)))) (
    some ((0 : Int32), S)) := zeqi d 166 12 0 [some (zr 11 0), some (zi a1)] [] S
set_option maxRecDepth 100000 in
theorem eM_fails (d : Nat) (a1 : Int32) (S : ZS) : zM_fails (d + 1) a1 S =
  some ((0 : Int32), ((zu S.1 11 0 44 (a1 + ((16 : Int32) * (S.1 11 0 40)))), S.2)) := zeqi d 167 12 0 [some (zr 11 0), some (zi a1)] [] S
set_option maxRecDepth 100000 in
theorem eM_puts (d : Nat) (a1 : Int32) (S : ZS) : zM_puts (d + 1) a1 S =
  zg (zin (S.1 11 0 54) 2000) (
  some ((zu (zu S.1 98 0 (zx (S.1 11 0 54)) a1) 11 0 54 (((zu S.1 98 0 (zx (S.1 11 0 54)) a1) 11 0 54) + (1 : Int32))), S.2)) := zeqv d 168 12 0 [some (zr 11 0), some (zi a1)] [] S
set_option maxRecDepth 100000 in
theorem eM_fact (d : Nat)  (S : ZS) : zM_fact (d + 1)  S =
  zif ((S.1 11 0 41) = (1 : Int32)) (
    zif ((lg_cmp (S.2.1 11 0 42) (523076 : Int64)) = 0) (
      some ((1 : Int32), S)) (
      zif ((lg_cmp (S.2.1 11 0 42) (168984 : Int64)) = 0) (
        some ((2 : Int32), S)) (
        zif ((lg_cmp (S.2.1 11 0 42) (2968 : Int64)) = 0) (
          some ((3 : Int32), S)) (
          zif ((lg_cmp (S.2.1 11 0 42) (173107021 : Int64)) = 0) (
            some ((4 : Int32), S)) (
            zif ((lg_cmp (S.2.1 11 0 42) (11442943 : Int64)) = 0) (
              some ((5 : Int32), S)) (
              zif ((lg_cmp (S.2.1 11 0 42) (243140 : Int64)) = 0) (
                some ((6 : Int32), S)) (
                some ((0 : Int32), S)))))))) (
    some ((0 : Int32), S)) := zeqi d 169 12 0 [some (zr 11 0)] [] S
set_option maxRecDepth 100000 in
theorem eM_isOwn (d : Nat)  (S : ZS) : zM_isOwn (d + 1)  S =
  zif ((lg_cmp (S.2.1 11 0 42) (8903 : Int64)) = 0) (
    some ((1 : Int32), S)) (
    zif ((lg_cmp (S.2.1 11 0 42) (423812 : Int64)) = 0) (
      some ((1 : Int32), S)) (
      zif ((lg_cmp (S.2.1 11 0 42) (99233 : Int64)) = 0) (
        some ((1 : Int32), S)) (
        zif ((lg_cmp (S.2.1 11 0 42) (458690 : Int64)) = 0) (
          some ((1 : Int32), S)) (
          zif ((lg_cmp (S.2.1 11 0 42) (1111 : Int64)) = 0) (
            some ((1 : Int32), S)) (
            zif ((lg_cmp (S.2.1 11 0 42) (423 : Int64)) = 0) (
              some ((1 : Int32), S)) (
              zif ((lg_cmp (S.2.1 11 0 42) (10631 : Int64)) = 0) (
                some ((1 : Int32), S)) (
                (zM_fact d S).bind (fun r1 =>
                zif (r1.1 ≤ 0) (
                  some ((0 : Int32), r1.2)) (
                  some ((1 : Int32), r1.2)))))))))) := zeqi d 170 12 0 [some (zr 11 0)] [] S
set_option maxRecDepth 100000 in
theorem eM_nameAt (d : Nat)  (S : ZS) : zM_nameAt (d + 1)  S =
  zM_nameAt_2 d (0 : Int32) S := zeqi d 171 12 0 [some (zr 11 0), none] [] S
set_option maxRecDepth 100000 in
theorem eM_nameAt_2 (d : Nat) (a1 : Int32) (S : ZS) : zM_nameAt_2 d a1 S =
  zg (zin (1 : Int32) 2) (
  zif ((S.1 96 0 (zx (1 : Int32))) ≤ a1) (
    some ((-1 : Int32), S)) (
    zg (zin a1 6) (
    zif ((lg_cmp (S.2.1 97 0 (zx a1)) (S.2.1 11 0 42)) = 0) (
      some (a1, S)) (
      zM_nameAt_2 d (a1 + (1 : Int32)) S)))) := zeqi d 171 12 2 [some (zr 11 0), some (zi a1)] [] S
set_option maxRecDepth 100000 in
theorem eM_reads (d : Nat) (a1 : Int32) (S : ZS) : zM_reads (d + 1) a1 S =
  zg (zin (0 : Int32) 6) (
  zg (zbl (0 : Int32)) (
  zg (zin a1 32) (
  zM_reads_21 d a1 (0 : Int32) (1 : Int32) ((zu (zu S.1 100 0 (zx (0 : Int32)) (0 : Int32)) 94 0 (zx a1) ((zu S.1 100 0 (zx (0 : Int32)) (0 : Int32)) 11 0 54)), S.2)))) := zeqi d 172 12 0 [some (zr 11 0), some (zi a1), none, none, none, none, none, none] [] S
set_option maxRecDepth 100000 in
theorem eM_reads_21 (d : Nat) (a1 : Int32) (a2 : Int32) (a3 : Int32) (S : ZS) : zM_reads_21 d a1 a2 a3 S =
  zif (a3 = 0) (
    (zM_isSign d (43 : Int32) S).bind (fun r1 =>
    zif (r1.1 = 0) (
      (zM_isSign d (45 : Int32) r1.2).bind (fun r2 =>
      zif (r2.1 = 0) (
        (zM_isSign d (42 : Int32) r2.2).bind (fun r3 =>
        zif (r3.1 = 0) (
          (zM_isSign d (60 : Int32) r3.2).bind (fun r4 =>
          zif (r4.1 = 0) (
            (zM_isSign d (61 : Int32) r4.2).bind (fun r5 =>
            zif (r5.1 = 0) (
              zM_reads_378 d a1 a2 a3 r5.2) (
              zM_reads_337 d a1 a2 a3 r5.2))) (
            zM_reads_337 d a1 a2 a3 r4.2))) (
          zM_reads_280 d a1 a2 r3.2))) (
        zM_reads_280 d a1 a2 r2.2))) (
      zM_reads_280 d a1 a2 r1.2))) (
    (zM_fact d S).bind (fun r6 =>
    (zM_isWord d (10631 : Int64) r6.2).bind (fun r7 =>
    (zM_isSign d (40 : Int32) r7.2).bind (fun r8 =>
    zif ((r8.2.1 11 0 41) = (1 : Int32)) (
      (zM_isOwn d r8.2).bind (fun r9 =>
      zif (r9.1 = 0) (
        zM_reads_68 d a1 a2 a3 r6.1 r7.1 r8.1 (1 : Int32) r9.2) (
        zM_reads_68 d a1 a2 a3 r6.1 r7.1 r8.1 (0 : Int32) r9.2))) (
      zM_reads_68 d a1 a2 a3 r6.1 r7.1 r8.1 (0 : Int32) r8.2))))) := zeqi d 172 12 21 [some (zr 11 0), some (zi a1), some (zi a2), some (zi a3), none, none, none, none] [] S
set_option maxRecDepth 100000 in
theorem eM_reads_68 (d : Nat) (a1 : Int32) (a2 : Int32) (a3 : Int32) (a4 : Int32) (a5 : Int32) (a6 : Int32) (s0 : Int32) (S : ZS) : zM_reads_68 d a1 a2 a3 a4 a5 a6 s0 S =
  zif (a4 = 0) (
    zif (a5 = 0) (
      zif (a6 = 0) (
        zif (s0 = 0) (
          zif ((S.1 11 0 41) = (2 : Int32)) (
            zif (s0 = 0) (
              zM_reads_122 d a1 a2 a3 a4 a5 a6 s0 S) (
              (zM_nameAt d S).bind (fun r1 =>
              zif (0 ≤ r1.1) (
                zM_reads_122 d a1 a2 a3 a4 a5 a6 s0 r1.2) (
                (zM_fails d (2 : Int32) r1.2).bind (fun r2 =>
                zgb r2.1 (some (r2.1, r2.2))))))) (
            (zM_fails d (1 : Int32) S).bind (fun r3 =>
            zgb r3.1 (some (r3.1, r3.2))))) (
          zif (s0 = 0) (
            zM_reads_122 d a1 a2 a3 a4 a5 a6 s0 S) (
            (zM_nameAt d S).bind (fun r4 =>
            zif (0 ≤ r4.1) (
              zM_reads_122 d a1 a2 a3 a4 a5 a6 s0 r4.2) (
              (zM_fails d (2 : Int32) r4.2).bind (fun r5 =>
              zgb r5.1 (some (r5.1, r5.2)))))))) (
        zif (s0 = 0) (
          zM_reads_122 d a1 a2 a3 a4 a5 a6 s0 S) (
          (zM_nameAt d S).bind (fun r6 =>
          zif (0 ≤ r6.1) (
            zM_reads_122 d a1 a2 a3 a4 a5 a6 s0 r6.2) (
            (zM_fails d (2 : Int32) r6.2).bind (fun r7 =>
            zgb r7.1 (some (r7.1, r7.2)))))))) (
      zif (s0 = 0) (
        zM_reads_122 d a1 a2 a3 a4 a5 a6 s0 S) (
        (zM_nameAt d S).bind (fun r8 =>
        zif (0 ≤ r8.1) (
          zM_reads_122 d a1 a2 a3 a4 a5 a6 s0 r8.2) (
          (zM_fails d (2 : Int32) r8.2).bind (fun r9 =>
          zgb r9.1 (some (r9.1, r9.2)))))))) (
    zif (s0 = 0) (
      zM_reads_122 d a1 a2 a3 a4 a5 a6 s0 S) (
      (zM_nameAt d S).bind (fun r10 =>
      zif (0 ≤ r10.1) (
        zM_reads_122 d a1 a2 a3 a4 a5 a6 s0 r10.2) (
        (zM_fails d (2 : Int32) r10.2).bind (fun r11 =>
        zgb r11.1 (some (r11.1, r11.2))))))) := zeqi d 172 12 68 [some (zr 11 0), some (zi a1), some (zi a2), some (zi a3), some (zi a4), some (zi a5), some (zi a6), none] [zi s0] S
set_option maxRecDepth 100000 in
theorem eM_reads_122 (d : Nat) (a1 : Int32) (a2 : Int32) (a3 : Int32) (a4 : Int32) (a5 : Int32) (a6 : Int32) (a7 : Int32) (S : ZS) : zM_reads_122 d a1 a2 a3 a4 a5 a6 a7 S =
  zif (a2 = (5 : Int32)) (
    (zM_fails d (5 : Int32) S).bind (fun r1 =>
    zgb r1.1 (some (r1.1, r1.2)))) (
    zif (a5 = 0) (
      zif (a6 = 0) (
        zif (a4 ≤ 0) (
          zif (a7 = 0) (
            (zM_puts d ((100 : Int32) + (S.1 11 0 43)) S).bind (fun r2 =>
            zM_reads_226 d a1 a2 (0 : Int32) r2)) (
            (zM_nameAt d S).bind (fun r3 =>
            (zM_puts d ((10 : Int32) + r3.1) r3.2).bind (fun r4 =>
            zM_reads_226 d a1 a2 (0 : Int32) r4)))) (
          (zM_puts d a4 S).bind (fun r5 =>
          zM_reads_226 d a1 a2 (0 : Int32) r5))) (
        zif (a5 = 0) (
          zM_reads_156 d a1 a2 a3 a5 (28 : Int32) S) (
          zM_reads_156 d a1 a2 a3 a5 (30 : Int32) S))) (
      zif (a5 = 0) (
        zM_reads_156 d a1 a2 a3 a5 (28 : Int32) S) (
        zM_reads_156 d a1 a2 a3 a5 (30 : Int32) S))) := zeqi d 172 12 122 [some (zr 11 0), some (zi a1), some (zi a2), some (zi a3), some (zi a4), some (zi a5), some (zi a6), some (zi a7)] [] S
set_option maxRecDepth 100000 in
theorem eM_reads_156 (d : Nat) (a1 : Int32) (a2 : Int32) (a3 : Int32) (a5 : Int32) (s0 : Int32) (S : ZS) : zM_reads_156 d a1 a2 a3 a5 s0 S =
  (zM_puts d s0 S).bind (fun r1 =>
  zif (a5 = 0) (
    zg (zin (a2 + (1 : Int32)) 6) (
    zg (zin (a2 + (1 : Int32)) 6) (
    zg (zbl (0 : Int32)) (
    (zM_next d ((zu (zu r1.1 99 0 (zx (a2 + (1 : Int32))) (2 : Int32)) 100 0 (zx (a2 + (1 : Int32))) (0 : Int32)), r1.2)).bind (fun r2 =>
    zM_reads_21 d a1 (a2 + (1 : Int32)) a3 r2))))) (
    zg (zin (a2 + (1 : Int32)) 6) (
    zg (zin (a2 + (1 : Int32)) 6) (
    zg (zbl (0 : Int32)) (
    (zM_next d ((zu (zu r1.1 99 0 (zx (a2 + (1 : Int32))) (1 : Int32)) 100 0 (zx (a2 + (1 : Int32))) (0 : Int32)), r1.2)).bind (fun r3 =>
    zM_reads_21 d a1 (a2 + (1 : Int32)) a3 r3)))))) := zeqi d 172 12 156 [some (zr 11 0), some (zi a1), some (zi a2), some (zi a3), none, some (zi a5), none, none] [zi s0, zr 11 0] S
set_option maxRecDepth 100000 in
theorem eM_reads_226 (d : Nat) (a1 : Int32) (a2 : Int32) (a3 : Int32) (S : ZS) : zM_reads_226 d a1 a2 a3 S =
  zif (a2 ≤ 0) (
    (zM_next d S).bind (fun r1 =>
    zM_reads_21 d a1 a2 a3 r1)) (
    zg (zin a2 6) (
    zif ((S.1 99 0 (zx a2)) = (1 : Int32)) (
      zM_reads_226 d a1 (a2 + (-1 : Int32)) a3 S) (
      (zM_next d S).bind (fun r2 =>
      zM_reads_21 d a1 a2 a3 r2)))) := zeqi d 172 12 226 [some (zr 11 0), some (zi a1), some (zi a2), some (zi a3), none, none, none, none] [] S
set_option maxRecDepth 100000 in
theorem eM_reads_280 (d : Nat) (a1 : Int32) (a2 : Int32) (S : ZS) : zM_reads_280 d a1 a2 S =
  (zM_isSign d (43 : Int32) S).bind (fun r1 =>
  zif (r1.1 = 0) (
    (zM_isSign d (45 : Int32) r1.2).bind (fun r2 =>
    zif (r2.1 = 0) (
      (zM_puts d (22 : Int32) r2.2).bind (fun r3 =>
      (zM_next d r3).bind (fun r4 =>
      zM_reads_21 d a1 a2 (1 : Int32) r4))) (
      (zM_puts d (21 : Int32) r2.2).bind (fun r5 =>
      (zM_next d r5).bind (fun r6 =>
      zM_reads_21 d a1 a2 (1 : Int32) r6))))) (
    (zM_puts d (20 : Int32) r1.2).bind (fun r7 =>
    (zM_next d r7).bind (fun r8 =>
    zM_reads_21 d a1 a2 (1 : Int32) r8)))) := zeqi d 172 12 280 [some (zr 11 0), some (zi a1), some (zi a2), none, none, none, none, none] [] S
set_option maxRecDepth 100000 in
theorem eM_reads_337 (d : Nat) (a1 : Int32) (a2 : Int32) (a3 : Int32) (S : ZS) : zM_reads_337 d a1 a2 a3 S =
  zg (zin a2 6) (
  zif ((S.1 100 0 (zx a2)) = 0) (
    (zM_isSign d (60 : Int32) S).bind (fun r1 =>
    zif (r1.1 = 0) (
      (zM_puts d (25 : Int32) r1.2).bind (fun r2 =>
      zg (zin a2 6) (
      zg (zbl (1 : Int32)) (
      (zM_next d ((zu r2.1 100 0 (zx a2) (1 : Int32)), r2.2)).bind (fun r3 =>
      zM_reads_21 d a1 a2 (1 : Int32) r3))))) (
      (zM_puts d (24 : Int32) r1.2).bind (fun r4 =>
      zg (zin a2 6) (
      zg (zbl (1 : Int32)) (
      (zM_next d ((zu r4.1 100 0 (zx a2) (1 : Int32)), r4.2)).bind (fun r5 =>
      zM_reads_21 d a1 a2 (1 : Int32) r5))))))) (
    zM_reads_378 d a1 a2 a3 S)) := zeqi d 172 12 337 [some (zr 11 0), some (zi a1), some (zi a2), some (zi a3), none, none, none, none] [] S
set_option maxRecDepth 100000 in
theorem eM_reads_378 (d : Nat) (a1 : Int32) (a2 : Int32) (a3 : Int32) (S : ZS) : zM_reads_378 d a1 a2 a3 S =
  (zM_isWord d (1111 : Int64) S).bind (fun r1 =>
  zif (r1.1 = 0) (
    (zM_isWord d (423 : Int64) r1.2).bind (fun r2 =>
    zif (r2.1 = 0) (
      (zM_isSign d (41 : Int32) r2.2).bind (fun r3 =>
      zif (r3.1 = 0) (
        zM_reads_473 d a1 a2 r3.2) (
        zif (a2 ≤ 0) (
          zM_reads_473 d a1 a2 r3.2) (
          (zM_puts d (29 : Int32) r3.2).bind (fun r4 =>
          zM_reads_453 d a1 (a2 + (-1 : Int32)) a3 r4))))) (
      zM_reads_398 d a1 a2 r2.2))) (
    zM_reads_398 d a1 a2 r1.2)) := zeqi d 172 12 378 [some (zr 11 0), some (zi a1), some (zi a2), some (zi a3), none, none, none, none] [] S
set_option maxRecDepth 100000 in
theorem eM_reads_398 (d : Nat) (a1 : Int32) (a2 : Int32) (S : ZS) : zM_reads_398 d a1 a2 S =
  (zM_isWord d (1111 : Int64) S).bind (fun r1 =>
  zif (r1.1 = 0) (
    (zM_puts d (27 : Int32) r1.2).bind (fun r2 =>
    zg (zin a2 6) (
    zg (zbl (0 : Int32)) (
    (zM_next d ((zu r2.1 100 0 (zx a2) (0 : Int32)), r2.2)).bind (fun r3 =>
    zM_reads_21 d a1 a2 (1 : Int32) r3))))) (
    (zM_puts d (26 : Int32) r1.2).bind (fun r4 =>
    zg (zin a2 6) (
    zg (zbl (0 : Int32)) (
    (zM_next d ((zu r4.1 100 0 (zx a2) (0 : Int32)), r4.2)).bind (fun r5 =>
    zM_reads_21 d a1 a2 (1 : Int32) r5)))))) := zeqi d 172 12 398 [some (zr 11 0), some (zi a1), some (zi a2), none, none, none, none, none] [] S
set_option maxRecDepth 100000 in
theorem eM_reads_453 (d : Nat) (a1 : Int32) (a2 : Int32) (a3 : Int32) (S : ZS) : zM_reads_453 d a1 a2 a3 S =
  zif (a2 ≤ 0) (
    (zM_next d S).bind (fun r1 =>
    zM_reads_21 d a1 a2 a3 r1)) (
    zg (zin a2 6) (
    zif ((S.1 99 0 (zx a2)) = (1 : Int32)) (
      zM_reads_453 d a1 (a2 + (-1 : Int32)) a3 S) (
      (zM_next d S).bind (fun r2 =>
      zM_reads_21 d a1 a2 a3 r2)))) := zeqi d 172 12 453 [some (zr 11 0), some (zi a1), some (zi a2), some (zi a3), none, none, none, none] [] S
set_option maxRecDepth 100000 in
theorem eM_reads_473 (d : Nat) (a1 : Int32) (a2 : Int32) (S : ZS) : zM_reads_473 d a1 a2 S =
  (zM_isSign d (59 : Int32) S).bind (fun r1 =>
  zif (r1.1 = 0) (
    (zM_fails d (1 : Int32) r1.2).bind (fun r2 =>
    zgb r2.1 (some (r2.1, r2.2)))) (
    zif (a2 = 0) (
      zg (zin a1 32) (
      (zM_next d ((zu r1.2.1 95 0 (zx a1) (r1.2.1 11 0 54)), r1.2.2)).bind (fun r3 =>
      some ((1 : Int32), r3)))) (
      (zM_fails d (1 : Int32) r1.2).bind (fun r4 =>
      zgb r4.1 (some (r4.1, r4.2)))))) := zeqi d 172 12 473 [some (zr 11 0), some (zi a1), some (zi a2), none, none, none, none, none] [] S
set_option maxRecDepth 100000 in
theorem eM_readsLine (d : Nat)  (S : ZS) : zM_readsLine (d + 1)  S =
  (zM_isWord d (8903 : Int64) S).bind (fun r1 =>
  zif (r1.1 = 0) (
    (zM_isWord d (423812 : Int64) r1.2).bind (fun r2 =>
    zif (r2.1 = 0) (
      (zM_fails d (1 : Int32) r2.2).bind (fun r3 =>
      zgb r3.1 (some (r3.1, r3.2)))) (
      zM_readsLine_28 d r1.1 r2.2))) (
    zM_readsLine_28 d r1.1 r1.2)) := zeqi d 173 12 0 [some (zr 11 0), none, none, none, none] [] S
set_option maxRecDepth 100000 in
theorem eM_readsLine_28 (d : Nat) (a1 : Int32) (S : ZS) : zM_readsLine_28 d a1 S =
  zg (zin (1 : Int32) 2) (
  zif ((S.1 90 0 (zx (1 : Int32))) = (16 : Int32)) (
    (zM_fails d (5 : Int32) S).bind (fun r1 =>
    zgb r1.1 (some (r1.1, r1.2)))) (
    zg (zin (1 : Int32) 2) (
    (zM_next d S).bind (fun r2 =>
    zif (a1 = 0) (
      zif ((r2.1 11 0 41) = (2 : Int32)) (
        zif ((r2.1 11 0 43) ≤ (99 : Int32)) (
          zg (zin ((16 : Int32) + (S.1 90 0 (zx (1 : Int32)))) 32) (
          (zM_next d ((zu r2.1 92 0 (zx ((16 : Int32) + (S.1 90 0 (zx (1 : Int32))))) (r2.1 11 0 43)), r2.2)).bind (fun r3 =>
          (zM_isWord d (99233 : Int64) r3).bind (fun r4 =>
          zif (r4.1 = 0) (
            (zM_fails d (1 : Int32) r4.2).bind (fun r5 =>
            zgb r5.1 (some (r5.1, r5.2)))) (
            (zM_next d r4.2).bind (fun r6 =>
            zif ((r6.1 11 0 41) = (2 : Int32)) (
              (zM_within d (r6.1 11 0 43) (30 : Int32) (9999 : Int32) r6).bind (fun r7 =>
              zif (r7.1 = 0) (
                (zM_fails d (4 : Int32) r7.2).bind (fun r8 =>
                zgb r8.1 (some (r8.1, r8.2)))) (
                zg (zin ((16 : Int32) + (S.1 90 0 (zx (1 : Int32)))) 32) (
                (zM_next d ((zu r7.2.1 93 0 (zx ((16 : Int32) + (S.1 90 0 (zx (1 : Int32))))) (r7.2.1 11 0 43)), r7.2.2)).bind (fun r9 =>
                (zM_isWord d (458690 : Int64) r9).bind (fun r10 =>
                zif (r10.1 = 0) (
                  (zM_fails d (1 : Int32) r10.2).bind (fun r11 =>
                  zgb r11.1 (some (r11.1, r11.2)))) (
                  (zM_next d r10.2).bind (fun r12 =>
                  (zM_reads d ((16 : Int32) + (S.1 90 0 (zx (1 : Int32)))) r12).bind (fun r13 =>
                  zif (r13.1 = 0) (
                    some ((0 : Int32), r13.2)) (
                    zg (zin ((16 : Int32) + (S.1 90 0 (zx (1 : Int32)))) 32) (
                    zg (zin (1 : Int32) 2) (
                    zg (zin (1 : Int32) 2) (
                    some ((1 : Int32), ((zu (zu r13.2.1 91 0 (zx ((16 : Int32) + (S.1 90 0 (zx (1 : Int32))))) (-1 : Int32)) 90 0 (zx (1 : Int32)) (((zu r13.2.1 91 0 (zx ((16 : Int32) + (S.1 90 0 (zx (1 : Int32))))) (-1 : Int32)) 90 0 (zx (1 : Int32))) + (1 : Int32))), r13.2.2))))))))))))))) (
              (zM_fails d (1 : Int32) r6).bind (fun r14 =>
              zgb r14.1 (some (r14.1, r14.2)))))))))) (
          (zM_fails d (4 : Int32) r2).bind (fun r15 =>
          zgb r15.1 (some (r15.1, r15.2))))) (
        (zM_fails d (1 : Int32) r2).bind (fun r16 =>
        zgb r16.1 (some (r16.1, r16.2))))) (
      zif ((r2.1 11 0 41) = (1 : Int32)) (
        (zM_isOwn d r2).bind (fun r17 =>
        zif (r17.1 = 0) (
          (zM_nameAt d r17.2).bind (fun r18 =>
          zif (r18.1 < 0) (
            zg (zin (1 : Int32) 2) (
            zif ((r18.2.1 96 0 (zx (1 : Int32))) = (6 : Int32)) (
              (zM_fails d (5 : Int32) r18.2).bind (fun r19 =>
              zgb r19.1 (some (r19.1, r19.2)))) (
              (zM_next d r18.2).bind (fun r20 =>
              (zM_isSign d (61 : Int32) r20).bind (fun r21 =>
              zif (r21.1 = 0) (
                (zM_fails d (1 : Int32) r21.2).bind (fun r22 =>
                zgb r22.1 (some (r22.1, r22.2)))) (
                (zM_next d r21.2).bind (fun r23 =>
                (zM_reads d ((16 : Int32) + (S.1 90 0 (zx (1 : Int32)))) r23).bind (fun r24 =>
                zif (r24.1 = 0) (
                  some ((0 : Int32), r24.2)) (
                  zg (zin (1 : Int32) 2) (
                  zg (zin (r24.2.1 96 0 (zx (1 : Int32))) 6) (
                  zg (zin (1 : Int32) 2) (
                  zg (zin ((16 : Int32) + (S.1 90 0 (zx (1 : Int32)))) 32) (
                  zg (zin (1 : Int32) 2) (
                  zg (zin (1 : Int32) 2) (
                  zg (zin (1 : Int32) 2) (
                  zg (zin (1 : Int32) 2) (
                  some ((1 : Int32), ((zu (zu (zu r24.2.1 91 0 (zx ((16 : Int32) + (S.1 90 0 (zx (1 : Int32))))) (r24.2.1 96 0 (zx (1 : Int32)))) 96 0 (zx (1 : Int32)) (((zu r24.2.1 91 0 (zx ((16 : Int32) + (S.1 90 0 (zx (1 : Int32))))) (r24.2.1 96 0 (zx (1 : Int32)))) 96 0 (zx (1 : Int32))) + (1 : Int32))) 90 0 (zx (1 : Int32)) (((zu (zu r24.2.1 91 0 (zx ((16 : Int32) + (S.1 90 0 (zx (1 : Int32))))) (r24.2.1 96 0 (zx (1 : Int32)))) 96 0 (zx (1 : Int32)) (((zu r24.2.1 91 0 (zx ((16 : Int32) + (S.1 90 0 (zx (1 : Int32))))) (r24.2.1 96 0 (zx (1 : Int32)))) 96 0 (zx (1 : Int32))) + (1 : Int32))) 90 0 (zx (1 : Int32))) + (1 : Int32))), (zu r24.2.2.1 97 0 (zx (r24.2.1 96 0 (zx (1 : Int32)))) (r18.2.2.1 11 0 42)), r24.2.2.2))))))))))))))))))) (
            (zM_fails d (3 : Int32) r18.2).bind (fun r25 =>
            zgb r25.1 (some (r25.1, r25.2)))))) (
          (zM_fails d (1 : Int32) r17.2).bind (fun r26 =>
          zgb r26.1 (some (r26.1, r26.2)))))) (
        (zM_fails d (1 : Int32) r2).bind (fun r27 =>
        zgb r27.1 (some (r27.1, r27.2))))))))) := zeqi d 173 12 28 [some (zr 11 0), some (zi a1), none, none, none] [] S
set_option maxRecDepth 100000 in
theorem eM_tariff (d : Nat)  (S : ZS) : zM_tariff (d + 1)  S =
  zg (zin (1 : Int32) 2) (
  zg (zin (1 : Int32) 2) (
  (zM_next d ((zu (zu (zu (zu (zu (zu (zu S.1 11 0 0 (0 : Int32)) 11 0 38 ((zu S.1 11 0 0 (0 : Int32)) 11 0 36)) 11 0 36 (0 : Int32)) 11 0 39 (0 : Int32)) 90 0 (zx (1 : Int32)) (0 : Int32)) 96 0 (zx (1 : Int32)) (0 : Int32)) 11 0 54 (1000 : Int32)), S.2)).bind (fun r1 =>
  zM_tariff_48 d r1))) := zeqi d 174 12 0 [some (zr 11 0), none] [] S
set_option maxRecDepth 100000 in
theorem eM_tariff_48 (d : Nat)  (S : ZS) : zM_tariff_48 d  S =
  zif ((S.1 11 0 41) = 0) (
    zg (zin (1 : Int32) 2) (
    zg (zin (0 : Int32) 2) (
    zg (zin (1 : Int32) 2) (
    zg (zin (0 : Int32) 2) (
    zM_tariff_93 d (0 : Int32) ((zu (zu S.1 90 0 (zx (0 : Int32)) (S.1 90 0 (zx (1 : Int32)))) 96 0 (zx (0 : Int32)) ((zu S.1 90 0 (zx (0 : Int32)) (S.1 90 0 (zx (1 : Int32)))) 96 0 (zx (1 : Int32)))), S.2)))))) (
    (zM_readsLine d S).bind (fun r1 =>
    zif (r1.1 = 0) (
      some ((r1.2.1 11 0 44), r1.2)) (
      zM_tariff_48 d r1.2))) := zeqi d 174 12 48 [some (zr 11 0), none] [] S
set_option maxRecDepth 100000 in
theorem eM_tariff_93 (d : Nat) (a1 : Int32) (S : ZS) : zM_tariff_93 d a1 S =
  zif ((16 : Int32) ≤ a1) (
    zM_tariff_190 d (0 : Int32) S) (
    zg (zin ((16 : Int32) + a1) 32) (
    zg (zin a1 32) (
    zg (zin ((16 : Int32) + a1) 32) (
    zg (zin a1 32) (
    zg (zin ((16 : Int32) + a1) 32) (
    zg (zin a1 32) (
    zg (zin ((16 : Int32) + a1) 32) (
    zg (zin a1 32) (
    zg (zin ((16 : Int32) + a1) 32) (
    zg (zin a1 32) (
    zM_tariff_93 d (a1 + (1 : Int32)) ((zu (zu (zu (zu (zu S.1 91 0 (zx a1) (S.1 91 0 (zx ((16 : Int32) + a1)))) 92 0 (zx a1) ((zu S.1 91 0 (zx a1) (S.1 91 0 (zx ((16 : Int32) + a1)))) 92 0 (zx ((16 : Int32) + a1)))) 93 0 (zx a1) ((zu (zu S.1 91 0 (zx a1) (S.1 91 0 (zx ((16 : Int32) + a1)))) 92 0 (zx a1) ((zu S.1 91 0 (zx a1) (S.1 91 0 (zx ((16 : Int32) + a1)))) 92 0 (zx ((16 : Int32) + a1)))) 93 0 (zx ((16 : Int32) + a1)))) 94 0 (zx a1) (((zu (zu (zu S.1 91 0 (zx a1) (S.1 91 0 (zx ((16 : Int32) + a1)))) 92 0 (zx a1) ((zu S.1 91 0 (zx a1) (S.1 91 0 (zx ((16 : Int32) + a1)))) 92 0 (zx ((16 : Int32) + a1)))) 93 0 (zx a1) ((zu (zu S.1 91 0 (zx a1) (S.1 91 0 (zx ((16 : Int32) + a1)))) 92 0 (zx a1) ((zu S.1 91 0 (zx a1) (S.1 91 0 (zx ((16 : Int32) + a1)))) 92 0 (zx ((16 : Int32) + a1)))) 93 0 (zx ((16 : Int32) + a1)))) 94 0 (zx ((16 : Int32) + a1))) - (1000 : Int32))) 95 0 (zx a1) (((zu (zu (zu (zu S.1 91 0 (zx a1) (S.1 91 0 (zx ((16 : Int32) + a1)))) 92 0 (zx a1) ((zu S.1 91 0 (zx a1) (S.1 91 0 (zx ((16 : Int32) + a1)))) 92 0 (zx ((16 : Int32) + a1)))) 93 0 (zx a1) ((zu (zu S.1 91 0 (zx a1) (S.1 91 0 (zx ((16 : Int32) + a1)))) 92 0 (zx a1) ((zu S.1 91 0 (zx a1) (S.1 91 0 (zx ((16 : Int32) + a1)))) 92 0 (zx ((16 : Int32) + a1)))) 93 0 (zx ((16 : Int32) + a1)))) 94 0 (zx a1) (((zu (zu (zu S.1 91 0 (zx a1) (S.1 91 0 (zx ((16 : Int32) + a1)))) 92 0 (zx a1) ((zu S.1 91 0 (zx a1) (S.1 91 0 (zx ((16 : Int32) + a1)))) 92 0 (zx ((16 : Int32) + a1)))) 93 0 (zx a1) ((zu (zu S.1 91 0 (zx a1) (S.1 91 0 (zx ((16 : Int32) + a1)))) 92 0 (zx a1) ((zu S.1 91 0 (zx a1) (S.1 91 0 (zx ((16 : Int32) + a1)))) 92 0 (zx ((16 : Int32) + a1)))) 93 0 (zx ((16 : Int32) + a1)))) 94 0 (zx ((16 : Int32) + a1))) - (1000 : Int32))) 95 0 (zx ((16 : Int32) + a1))) - (1000 : Int32))), S.2)))))))))))) := zeqi d 174 12 93 [some (zr 11 0), some (zi a1)] [] S
set_option maxRecDepth 100000 in
theorem eM_tariff_190 (d : Nat) (a1 : Int32) (S : ZS) : zM_tariff_190 d a1 S =
  zif ((1000 : Int32) ≤ a1) (
    some ((0 : Int32), S)) (
    zg (zin ((1000 : Int32) + a1) 2000) (
    zg (zin a1 2000) (
    zM_tariff_190 d (a1 + (1 : Int32)) ((zu S.1 98 0 (zx a1) (S.1 98 0 (zx ((1000 : Int32) + a1)))), S.2)))) := zeqi d 174 12 190 [some (zr 11 0), some (zi a1)] [] S
set_option maxRecDepth 100000 in
theorem eM_opens (d : Nat) (a1 : Int32) (S : ZS) : zM_opens (d + 1) a1 S =
  zg (zin a1 6) (
  zg (zin a1 6) (
  zg (zin a1 6) (
  zg (zin a1 6) (
  zg (zin a1 6) (
  zg (zbl (0 : Int32)) (
  some ((zu (zu (zu (zu (zu S.1 102 0 (zx a1) (0 : Int32)) 104 0 (zx a1) (0 : Int32)) 105 0 (zx a1) (0 : Int32)) 106 0 (zx a1) (20 : Int32)) 108 0 (zx a1) (0 : Int32)), S.2))))))) := zeqv d 175 12 0 [some (zr 11 0), some (zi a1)] [] S
set_option maxRecDepth 100000 in
theorem eM_sums (d : Nat) (a1 : Int32) (S : ZS) : zM_sums (d + 1) a1 S =
  zg (zin a1 6) (
  zif ((S.1 106 0 (zx a1)) = (21 : Int32)) (
    zg (zin a1 6) (
    zg (zin a1 6) (
    zg (zin a1 6) (
    zg (zin a1 6) (
    zg (zbl (0 : Int32)) (
    some ((zu (zu S.1 105 0 (zx a1) ((S.1 105 0 (zx a1)) - (S.1 107 0 (zx a1)))) 108 0 (zx a1) (0 : Int32)), S.2))))))) (
    zg (zin a1 6) (
    zg (zin a1 6) (
    zg (zin a1 6) (
    zg (zin a1 6) (
    zg (zbl (0 : Int32)) (
    some ((zu (zu S.1 105 0 (zx a1) ((S.1 105 0 (zx a1)) + (S.1 107 0 (zx a1)))) 108 0 (zx a1) (0 : Int32)), S.2)))))))) := zeqv d 176 12 0 [some (zr 11 0), some (zi a1)] [] S
set_option maxRecDepth 100000 in
theorem eM_tests (d : Nat) (a1 : Int32) (S : ZS) : zM_tests (d + 1) a1 S =
  (zM_sums d a1 S).bind (fun r1 =>
  zg (zin a1 6) (
  zg (zin a1 6) (
  zif ((r1.1 104 0 (zx a1)) = (24 : Int32)) (
    zg (zin a1 6) (
    zg (zin a1 6) (
    zif ((r1.1 105 0 (zx a1)) ≤ (r1.1 103 0 (zx a1))) (
      zM_tests_44 d a1 (0 : Int32) r1) (
      zM_tests_44 d a1 (1 : Int32) r1)))) (
    zM_tests_44 d a1 (r1.1 105 0 (zx a1)) r1)))) := zeqv d 177 12 0 [some (zr 11 0), some (zi a1), none] [] S
set_option maxRecDepth 100000 in
theorem eM_tests_44 (d : Nat) (a1 : Int32) (a2 : Int32) (S : ZS) : zM_tests_44 d a1 a2 S =
  zg (zin a1 6) (
  zif ((S.1 104 0 (zx a1)) = (25 : Int32)) (
    zg (zin a1 6) (
    zg (zin a1 6) (
    zif ((S.1 103 0 (zx a1)) = (S.1 105 0 (zx a1))) (
      zM_tests_76 d a1 (1 : Int32) S) (
      zM_tests_76 d a1 (0 : Int32) S)))) (
    zM_tests_76 d a1 a2 S)) := zeqv d 177 12 44 [some (zr 11 0), some (zi a1), some (zi a2)] [] S
set_option maxRecDepth 100000 in
theorem eM_tests_76 (d : Nat) (a1 : Int32) (a2 : Int32) (S : ZS) : zM_tests_76 d a1 a2 S =
  zg (zin a1 6) (
  zif ((S.1 102 0 (zx a1)) = (26 : Int32)) (
    zg (zin a1 6) (
    zif ((S.1 101 0 (zx a1)) = 0) (
      zM_tests_106 d a1 (0 : Int32) S) (
      zif (a2 = 0) (
        zM_tests_106 d a1 (0 : Int32) S) (
        zM_tests_106 d a1 (1 : Int32) S)))) (
    zM_tests_106 d a1 a2 S)) := zeqv d 177 12 76 [some (zr 11 0), some (zi a1), some (zi a2)] [] S
set_option maxRecDepth 100000 in
theorem eM_tests_106 (d : Nat) (a1 : Int32) (a2 : Int32) (S : ZS) : zM_tests_106 d a1 a2 S =
  zg (zin a1 6) (
  zif ((S.1 102 0 (zx a1)) = (27 : Int32)) (
    zg (zin a1 6) (
    zif ((S.1 101 0 (zx a1)) = 0) (
      zif (a2 = 0) (
        zM_tests_136 d a1 (0 : Int32) S) (
        zM_tests_136 d a1 (1 : Int32) S)) (
      zM_tests_136 d a1 (1 : Int32) S))) (
    zM_tests_136 d a1 a2 S)) := zeqv d 177 12 106 [some (zr 11 0), some (zi a1), some (zi a2)] [] S
set_option maxRecDepth 100000 in
theorem eM_tests_136 (d : Nat) (a1 : Int32) (a2 : Int32) (S : ZS) : zM_tests_136 d a1 a2 S =
  zg (zin a1 6) (
  zg (zin a1 6) (
  zg (zin a1 6) (
  zg (zin a1 6) (
  some ((zu (zu (zu (zu S.1 101 0 (zx a1) a2) 104 0 (zx a1) (0 : Int32)) 105 0 (zx a1) (0 : Int32)) 106 0 (zx a1) (20 : Int32)), S.2))))) := zeqv d 177 12 136 [some (zr 11 0), some (zi a1), some (zi a2)] [] S
set_option maxRecDepth 100000 in
theorem eM_worth (d : Nat) (a1 : Int32) (S : ZS) : zM_worth (d + 1) a1 S =
  (zM_opens d (0 : Int32) S).bind (fun r1 =>
  zg (zin a1 32) (
  zM_worth_14 d a1 (0 : Int32) (r1.1 94 0 (zx a1)) r1)) := zeqi d 178 12 0 [some (zr 11 0), some (zi a1), none, none, none, none] [] S
set_option maxRecDepth 100000 in
theorem eM_worth_14 (d : Nat) (a1 : Int32) (a2 : Int32) (a3 : Int32) (S : ZS) : zM_worth_14 d a1 a2 a3 S =
  zg (zin a1 32) (
  zif ((S.1 95 0 (zx a1)) ≤ a3) (
    (zM_tests d (0 : Int32) S).bind (fun r1 =>
    zg (zin (0 : Int32) 6) (
    some ((r1.1 101 0 (zx (0 : Int32))), r1)))) (
    zg (zin a3 2000) (
    zif ((S.1 98 0 (zx a3)) = (28 : Int32)) (
      zM_worth_46 d a1 a2 a3 (S.1 98 0 (zx a3)) S) (
      zif ((S.1 98 0 (zx a3)) = (30 : Int32)) (
        zM_worth_46 d a1 a2 a3 (S.1 98 0 (zx a3)) S) (
        zif ((S.1 98 0 (zx a3)) = (20 : Int32)) (
          (zM_sums d a2 S).bind (fun r2 =>
          zg (zin a2 6) (
          zM_worth_14 d a1 a2 (a3 + (1 : Int32)) ((zu r2.1 106 0 (zx a2) (S.1 98 0 (zx a3))), r2.2)))) (
          zif ((S.1 98 0 (zx a3)) = (21 : Int32)) (
            (zM_sums d a2 S).bind (fun r3 =>
            zg (zin a2 6) (
            zM_worth_14 d a1 a2 (a3 + (1 : Int32)) ((zu r3.1 106 0 (zx a2) (S.1 98 0 (zx a3))), r3.2)))) (
            zif ((S.1 98 0 (zx a3)) = (22 : Int32)) (
              zg (zin a2 6) (
              zg (zbl (1 : Int32)) (
              zM_worth_14 d a1 a2 (a3 + (1 : Int32)) ((zu S.1 108 0 (zx a2) (1 : Int32)), S.2)))) (
              zif ((S.1 98 0 (zx a3)) = (24 : Int32)) (
                zM_worth_136 d a1 a2 a3 (S.1 98 0 (zx a3)) S) (
                zif ((S.1 98 0 (zx a3)) = (25 : Int32)) (
                  zM_worth_136 d a1 a2 a3 (S.1 98 0 (zx a3)) S) (
                  zif ((S.1 98 0 (zx a3)) = (26 : Int32)) (
                    (zM_tests d a2 S).bind (fun r4 =>
                    zg (zin a2 6) (
                    zM_worth_14 d a1 a2 (a3 + (1 : Int32)) ((zu r4.1 102 0 (zx a2) (S.1 98 0 (zx a3))), r4.2)))) (
                    zif ((S.1 98 0 (zx a3)) = (27 : Int32)) (
                      (zM_tests d a2 S).bind (fun r5 =>
                      zg (zin a2 6) (
                      zM_worth_14 d a1 a2 (a3 + (1 : Int32)) ((zu r5.1 102 0 (zx a2) (S.1 98 0 (zx a3))), r5.2)))) (
                      zif ((S.1 98 0 (zx a3)) < (100 : Int32)) (
                        zif ((10 : Int32) ≤ (S.1 98 0 (zx a3))) (
                          zif ((20 : Int32) ≤ (S.1 98 0 (zx a3))) (
                            zif ((S.1 98 0 (zx a3)) = (29 : Int32)) (
                              (zM_tests d a2 S).bind (fun r6 =>
                              zg (zin a2 6) (
                              zM_worth_287 d a1 (a2 + (-1 : Int32)) a3 (r6.1 101 0 (zx a2)) r6))) (
                              zM_worth_287 d a1 a2 a3 (0 : Int32) S)) (
                            zg (zin ((S.1 98 0 (zx a3)) - (10 : Int32)) 6) (
                            zif ((S.1 98 0 (zx a3)) = (29 : Int32)) (
                              (zM_tests d a2 S).bind (fun r7 =>
                              zg (zin a2 6) (
                              zM_worth_287 d a1 (a2 + (-1 : Int32)) a3 (r7.1 101 0 (zx a2)) r7))) (
                              zM_worth_287 d a1 a2 a3 (S.1 111 0 (zx ((S.1 98 0 (zx a3)) - (10 : Int32)))) S)))) (
                          zg (zin (S.1 98 0 (zx a3)) 7) (
                          zif ((S.1 98 0 (zx a3)) = (29 : Int32)) (
                            (zM_tests d a2 S).bind (fun r8 =>
                            zg (zin a2 6) (
                            zM_worth_287 d a1 (a2 + (-1 : Int32)) a3 (r8.1 101 0 (zx a2)) r8))) (
                            zM_worth_287 d a1 a2 a3 (S.1 110 0 (zx (S.1 98 0 (zx a3)))) S)))) (
                        zif ((S.1 98 0 (zx a3)) = (29 : Int32)) (
                          (zM_tests d a2 S).bind (fun r9 =>
                          zg (zin a2 6) (
                          zM_worth_287 d a1 (a2 + (-1 : Int32)) a3 (r9.1 101 0 (zx a2)) r9))) (
                          zM_worth_287 d a1 a2 a3 ((S.1 98 0 (zx a3)) - (100 : Int32)) S)))))))))))))) := zeqi d 178 12 14 [some (zr 11 0), some (zi a1), some (zi a2), some (zi a3), none, none] [] S
set_option maxRecDepth 100000 in
theorem eM_worth_46 (d : Nat) (a1 : Int32) (a2 : Int32) (a3 : Int32) (a4 : Int32) (S : ZS) : zM_worth_46 d a1 a2 a3 a4 S =
  zif (a4 = (30 : Int32)) (
    zg (zin (a2 + (1 : Int32)) 6) (
    (zM_opens d (a2 + (1 : Int32)) ((zu S.1 109 0 (zx (a2 + (1 : Int32))) (1 : Int32)), S.2)).bind (fun r1 =>
    zM_worth_14 d a1 (a2 + (1 : Int32)) (a3 + (1 : Int32)) r1))) (
    zg (zin (a2 + (1 : Int32)) 6) (
    (zM_opens d (a2 + (1 : Int32)) ((zu S.1 109 0 (zx (a2 + (1 : Int32))) (0 : Int32)), S.2)).bind (fun r2 =>
    zM_worth_14 d a1 (a2 + (1 : Int32)) (a3 + (1 : Int32)) r2))) := zeqi d 178 12 46 [some (zr 11 0), some (zi a1), some (zi a2), some (zi a3), some (zi a4), none] [] S
set_option maxRecDepth 100000 in
theorem eM_worth_136 (d : Nat) (a1 : Int32) (a2 : Int32) (a3 : Int32) (a4 : Int32) (S : ZS) : zM_worth_136 d a1 a2 a3 a4 S =
  (zM_sums d a2 S).bind (fun r1 =>
  zg (zin a2 6) (
  zg (zin a2 6) (
  zg (zin a2 6) (
  zg (zin a2 6) (
  zg (zin a2 6) (
  zM_worth_14 d a1 a2 (a3 + (1 : Int32)) ((zu (zu (zu (zu r1.1 103 0 (zx a2) (r1.1 105 0 (zx a2))) 104 0 (zx a2) a4) 105 0 (zx a2) (0 : Int32)) 106 0 (zx a2) (20 : Int32)), r1.2))))))) := zeqi d 178 12 136 [some (zr 11 0), some (zi a1), some (zi a2), some (zi a3), some (zi a4), none] [] S
set_option maxRecDepth 100000 in
theorem eM_worth_287 (d : Nat) (a1 : Int32) (a2 : Int32) (a3 : Int32) (a5 : Int32) (S : ZS) : zM_worth_287 d a1 a2 a3 a5 S =
  zif (a2 ≤ 0) (
    zM_worth_319 d a1 a2 a3 a5 S) (
    zg (zin a2 6) (
    zif ((S.1 109 0 (zx a2)) = (1 : Int32)) (
      zif (a5 = 0) (
        zM_worth_287 d a1 (a2 + (-1 : Int32)) a3 (1 : Int32) S) (
        zM_worth_287 d a1 (a2 + (-1 : Int32)) a3 (0 : Int32) S)) (
      zM_worth_319 d a1 a2 a3 a5 S))) := zeqi d 178 12 287 [some (zr 11 0), some (zi a1), some (zi a2), some (zi a3), none, some (zi a5)] [] S
set_option maxRecDepth 100000 in
theorem eM_worth_319 (d : Nat) (a1 : Int32) (a2 : Int32) (a3 : Int32) (a5 : Int32) (S : ZS) : zM_worth_319 d a1 a2 a3 a5 S =
  zg (zin a2 6) (
  zif ((S.1 108 0 (zx a2)) = 0) (
    zg (zin a2 6) (
    zM_worth_14 d a1 a2 (a3 + (1 : Int32)) ((zu S.1 107 0 (zx a2) a5), S.2))) (
    zg (zin a2 6) (
    zg (zin a2 6) (
    zM_worth_14 d a1 a2 (a3 + (1 : Int32)) ((zu S.1 107 0 (zx a2) ((S.1 107 0 (zx a2)) * a5)), S.2))))) := zeqi d 178 12 319 [some (zr 11 0), some (zi a1), some (zi a2), some (zi a3), none, some (zi a5)] [] S
set_option maxRecDepth 100000 in
theorem eM_unitsOf (d : Nat) (a1 : Int32) (S : ZS) : zM_unitsOf (d + 1) a1 S =
  (zM_head d a1 S).bind (fun r1 =>
  zg (zin a1 40) (
  zM_unitsOf_16 d a1 r1.1 (0 : Int32) (r1.2.1 77 0 (zx a1)) r1.2)) := zeqi d 179 12 0 [some (zr 11 0), some (zi a1), none, none, none, none, none, none, none] [] S
set_option maxRecDepth 100000 in
theorem eM_unitsOf_16 (d : Nat) (a1 : Int32) (a2 : Int32) (a3 : Int32) (a4 : Int32) (S : ZS) : zM_unitsOf_16 d a1 a2 a3 a4 S =
  zif ((S.1 11 0 1) ≤ a4) (
    some (a3, S)) (
    zif (a2 < (100 : Int32)) (
      zM_unitsOf_49 d a1 a2 a3 a4 (0 : Int32) (1 : Int32) S) (
      zg (zin (a2 - (100 : Int32)) 16) (
      zM_unitsOf_49 d a1 a2 a3 a4 (S.1 63 0 (zx (a2 - (100 : Int32)))) (1 : Int32) S))) := zeqi d 179 12 16 [some (zr 11 0), some (zi a1), some (zi a2), some (zi a3), some (zi a4), none, none, none, none] [] S
set_option maxRecDepth 100000 in
theorem eM_unitsOf_49 (d : Nat) (a1 : Int32) (a2 : Int32) (a3 : Int32) (a4 : Int32) (s0 : Int32) (s1 : Int32) (S : ZS) : zM_unitsOf_49 d a1 a2 a3 a4 s0 s1 S =
  zg (zin s1 7) (
  zg (zin (2 : Int32) 7) (
  zg (zin (3 : Int32) 7) (
  zg (zin a1 40) (
  zg (zin (4 : Int32) 7) (
  zg (zin (5 : Int32) 7) (
  zg (zin (6 : Int32) 7) (
  zM_unitsOf_120 d a1 a2 a3 a4 (60 : Int32) (1 : Int32) (0 : Int32) ((zu (zu (zu (zu (zu (zu S.1 110 0 (zx s1) s0) 110 0 (zx (2 : Int32)) ((a4 / (3600 : Int32)) - (a4 / (3600 : Int32)) / (24 : Int32) * (24 : Int32))) 110 0 (zx (3 : Int32)) ((a4 / (86400 : Int32)) - (a4 / (86400 : Int32)) / (7 : Int32) * (7 : Int32))) 110 0 (zx (4 : Int32)) (a4 - ((zu (zu (zu S.1 110 0 (zx s1) s0) 110 0 (zx (2 : Int32)) ((a4 / (3600 : Int32)) - (a4 / (3600 : Int32)) / (24 : Int32) * (24 : Int32))) 110 0 (zx (3 : Int32)) ((a4 / (86400 : Int32)) - (a4 / (86400 : Int32)) / (7 : Int32) * (7 : Int32))) 77 0 (zx a1)))) 110 0 (zx (5 : Int32)) a3) 110 0 (zx (6 : Int32)) a1), S.2)))))))) := zeqi d 179 12 49 [some (zr 11 0), some (zi a1), some (zi a2), some (zi a3), some (zi a4), none, none, none, none] [zi s0, zi s1, zr 110 0] S
set_option maxRecDepth 100000 in
theorem eM_unitsOf_120 (d : Nat) (a1 : Int32) (a2 : Int32) (a3 : Int32) (a4 : Int32) (a5 : Int32) (a6 : Int32) (a7 : Int32) (S : ZS) : zM_unitsOf_120 d a1 a2 a3 a4 a5 a6 a7 S =
  zg (zin (0 : Int32) 2) (
  zif ((S.1 90 0 (zx (0 : Int32))) ≤ a7) (
    zM_unitsOf_16 d a1 a2 a3 (a4 + a5) S) (
    zif (a6 = 0) (
      zM_unitsOf_16 d a1 a2 a3 (a4 + a5) S) (
      (zM_worth d a7 S).bind (fun r1 =>
      zg (zin a7 32) (
      zif ((r1.2.1 91 0 (zx a7)) < 0) (
        zif (r1.1 = 0) (
          zM_unitsOf_120 d a1 a2 a3 a4 a5 a6 (a7 + (1 : Int32)) r1.2) (
          zg (zin a7 32) (
          zg (zin a7 32) (
          zM_unitsOf_120 d a1 a2 (a3 + (r1.2.1 92 0 (zx a7))) a4 (r1.2.1 93 0 (zx a7)) (0 : Int32) (a7 + (1 : Int32)) r1.2)))) (
        zg (zin a7 32) (
        zg (zin (r1.2.1 91 0 (zx a7)) 6) (
        zM_unitsOf_120 d a1 a2 a3 a4 a5 a6 (a7 + (1 : Int32)) ((zu r1.2.1 111 0 (zx (r1.2.1 91 0 (zx a7))) r1.1), r1.2.2))))))))) := zeqi d 179 12 120 [some (zr 11 0), some (zi a1), some (zi a2), some (zi a3), some (zi a4), some (zi a5), some (zi a6), some (zi a7), none] [] S
set_option maxRecDepth 100000 in
theorem eM_clears (d : Nat)  (S : ZS) : zM_clears (d + 1)  S =
  zM_clears_2 d (0 : Int32) S := zeqv d 180 12 0 [some (zr 11 0), none] [] S
set_option maxRecDepth 100000 in
theorem eM_clears_2 (d : Nat) (a1 : Int32) (S : ZS) : zM_clears_2 d a1 S =
  zif ((116 : Int32) ≤ a1) (
    zM_clears_23 d (0 : Int32) S) (
    zg (zin a1 116) (
    zg (zbl (0 : Int32)) (
    zM_clears_2 d (a1 + (1 : Int32)) ((zu S.1 80 0 (zx a1) (0 : Int32)), S.2)))) := zeqv d 180 12 2 [some (zr 11 0), some (zi a1)] [] S
set_option maxRecDepth 100000 in
theorem eM_clears_23 (d : Nat) (a1 : Int32) (S : ZS) : zM_clears_23 d a1 S =
  zif ((40 : Int32) ≤ a1) (
    some S) (
    zg (zin a1 40) (
    zg (zbl (0 : Int32)) (
    zM_clears_23 d (a1 + (1 : Int32)) ((zu S.1 81 0 (zx a1) (0 : Int32)), S.2)))) := zeqv d 180 12 23 [some (zr 11 0), some (zi a1)] [] S
set_option maxRecDepth 100000 in
theorem eM_digitOf (d : Nat) (a0 : Int32) (a1 : Int32) (a2 : Int32) (S : ZS) : zM_digitOf (d + 1) a0 a1 a2 S =
  zM_digitOf_7 d a1 a0 (a2 + (1 : Int32)) S := zeqi d 181 12 0 [some (zi a0), some (zi a1), some (zi a2), none, none] [] S
set_option maxRecDepth 100000 in
theorem eM_digitOf_7 (d : Nat) (a1 : Int32) (a3 : Int32) (a4 : Int32) (S : ZS) : zM_digitOf_7 d a1 a3 a4 S =
  zif (a1 ≤ a4) (
    some ((a3 - a3 / (10 : Int32) * (10 : Int32)), S)) (
    zM_digitOf_7 d a1 (a3 / (10 : Int32)) (a4 + (1 : Int32)) S) := zeqi d 181 12 7 [none, some (zi a1), none, some (zi a3), some (zi a4)] [] S
set_option maxRecDepth 100000 in
theorem eM_tries (d : Nat) (a1 : Int32) (S : ZS) : zM_tries (d + 1) a1 S =
  zg (zin a1 116) (
  zg (zbl (1 : Int32)) (
  zg (zin ((zu S.1 80 0 (zx a1) (1 : Int32)) 11 0 68) 8) (
  some ((zu (zu (zu S.1 80 0 (zx a1) (1 : Int32)) 112 0 (zx ((zu S.1 80 0 (zx a1) (1 : Int32)) 11 0 68)) a1) 11 0 68 (((zu (zu S.1 80 0 (zx a1) (1 : Int32)) 112 0 (zx ((zu S.1 80 0 (zx a1) (1 : Int32)) 11 0 68)) a1) 11 0 68) + (1 : Int32))), S.2)))) := zeqv d 182 12 0 [some (zr 11 0), some (zi a1)] [] S
set_option maxRecDepth 100000 in
theorem eM_meets (d : Nat) (a1 : Int32) (a2 : Int32) (a3 : Int32) (S : ZS) : zM_meets (d + 1) a1 a2 a3 S =
  (zM_isQuiet d a1 ((zu S.1 11 0 68 (0 : Int32)), S.2)).bind (fun r1 =>
  zif (r1.1 = 0) (
    some ((-1 : Int32), r1.2)) (
    zg (zin a1 40) (
    (zM_firstFree d (r1.2.1 67 0 (zx a1)) r1.2).bind (fun r2 =>
    zif (0 ≤ r2.1) (
      zg (zin a1 40) (
      zg (zbl (1 : Int32)) (
      (zM_tries d r2.1 ((zu r2.2.1 81 0 (zx a1) (1 : Int32)), r2.2.2)).bind (fun r3 =>
      zg (zin r2.1 116) (
      zif ((r3.1 66 0 (zx r2.1)) = 0) (
        zM_meets_74 d a2 a3 (0 : Int32) (0 : Int32) (0 : Int32) (0 : Int32) r3) (
        zM_meets_74 d a2 a3 (2 : Int32) (0 : Int32) (0 : Int32) (0 : Int32) r3)))))) (
      some ((7 : Int32), r2.2)))))) := zeqi d 183 12 0 [some (zr 11 0), some (zi a1), some (zi a2), some (zi a3), none, none, none, none, none, none, none, none] [] S
set_option maxRecDepth 100000 in
theorem eM_meets_74 (d : Nat) (a2 : Int32) (a3 : Int32) (a5 : Int32) (a6 : Int32) (a7 : Int32) (a8 : Int32) (S : ZS) : zM_meets_74 d a2 a3 a5 a6 a7 a8 S =
  zif (a3 ≤ a8) (
    some (a5, S)) (
    zif ((2 : Int32) ≤ a5) (
      some (a5, S)) (
      (zM_digitOf d a2 a3 a8 S).bind (fun r1 =>
      zg (zin ((r1.2.1 11 0 68) - (1 : Int32)) 8) (
      (zM_isEnding d (r1.2.1 112 0 (zx ((r1.2.1 11 0 68) - (1 : Int32)))) r1.2).bind (fun r2 =>
      zif (r2.1 = 0) (
        (zM_goesTo d (r1.2.1 112 0 (zx ((r1.2.1 11 0 68) - (1 : Int32)))) r1.1 r2.2).bind (fun r3 =>
        zif (r3.1 < 0) (
          zM_meets_138 d a2 a3 a6 a7 a8 r3.1 r3.2) (
          (zM_tries d r3.1 r3.2).bind (fun r4 =>
          zM_meets_138 d a2 a3 a6 a7 a8 r3.1 r4)))) (
        zif ((a6 + (1 : Int32)) = (1 : Int32)) (
          zM_meets_195 d a2 a3 (1 : Int32) (a6 + (1 : Int32)) r1.1 a8 r1.1 (r1.2.1 112 0 (zx ((r1.2.1 11 0 68) - (1 : Int32)))) r2.2) (
          zM_meets_195 d a2 a3 (1 : Int32) (a6 + (1 : Int32)) a7 a8 r1.1 (r1.2.1 112 0 (zx ((r1.2.1 11 0 68) - (1 : Int32)))) r2.2))))))) := zeqi d 183 12 74 [some (zr 11 0), none, some (zi a2), some (zi a3), none, some (zi a5), some (zi a6), some (zi a7), some (zi a8), none, none, none] [] S
set_option maxRecDepth 100000 in
theorem eM_meets_138 (d : Nat) (a2 : Int32) (a3 : Int32) (a6 : Int32) (a7 : Int32) (a8 : Int32) (a11 : Int32) (S : ZS) : zM_meets_138 d a2 a3 a6 a7 a8 a11 S =
  zif (a11 = (-1 : Int32)) (
    zM_meets_74 d a2 a3 (3 : Int32) a6 a7 (a8 + (1 : Int32)) S) (
    zif (a11 = (-2 : Int32)) (
      zM_meets_74 d a2 a3 (4 : Int32) a6 a7 (a8 + (1 : Int32)) S) (
      zg (zin a11 116) (
      zif ((S.1 66 0 (zx a11)) = 0) (
        zM_meets_74 d a2 a3 (1 : Int32) a6 a7 (a8 + (1 : Int32)) S) (
        zM_meets_74 d a2 a3 (2 : Int32) a6 a7 (a8 + (1 : Int32)) S)))) := zeqi d 183 12 138 [some (zr 11 0), none, some (zi a2), some (zi a3), none, none, some (zi a6), some (zi a7), some (zi a8), none, none, some (zi a11)] [] S
set_option maxRecDepth 100000 in
theorem eM_meets_195 (d : Nat) (a2 : Int32) (a3 : Int32) (a5 : Int32) (a6 : Int32) (a7 : Int32) (a8 : Int32) (a9 : Int32) (a10 : Int32) (S : ZS) : zM_meets_195 d a2 a3 a5 a6 a7 a8 a9 a10 S =
  zif (a10 < (100 : Int32)) (
    zif (a6 = (2 : Int32)) (
      (zM_lineOf d (a10 / (8 : Int32)) (((10 : Int32) * a7) + a9) S).bind (fun r1 =>
      zif (0 ≤ r1.1) (
        (zM_isQuiet d r1.1 r1.2).bind (fun r2 =>
        zif (r2.1 = 0) (
          zif ((3 : Int32) = (5 : Int32)) (
            zg (zin r1.1 40) (
            zg (zbl (1 : Int32)) (
            zM_meets_74 d a2 a3 (3 : Int32) a6 a7 (a8 + (1 : Int32)) ((zu r2.2.1 81 0 (zx r1.1) (1 : Int32)), r2.2.2)))) (
            zM_meets_74 d a2 a3 (3 : Int32) a6 a7 (a8 + (1 : Int32)) r2.2)) (
          zif ((5 : Int32) = (5 : Int32)) (
            zg (zin r1.1 40) (
            zg (zbl (1 : Int32)) (
            zM_meets_74 d a2 a3 (5 : Int32) a6 a7 (a8 + (1 : Int32)) ((zu r2.2.1 81 0 (zx r1.1) (1 : Int32)), r2.2.2)))) (
            zM_meets_74 d a2 a3 (5 : Int32) a6 a7 (a8 + (1 : Int32)) r2.2)))) (
        zif ((4 : Int32) = (5 : Int32)) (
          zg (zin r1.1 40) (
          zg (zbl (1 : Int32)) (
          zM_meets_74 d a2 a3 (4 : Int32) a6 a7 (a8 + (1 : Int32)) ((zu r1.2.1 81 0 (zx r1.1) (1 : Int32)), r1.2.2)))) (
          zM_meets_74 d a2 a3 (4 : Int32) a6 a7 (a8 + (1 : Int32)) r1.2)))) (
      zM_meets_74 d a2 a3 a5 a6 a7 (a8 + (1 : Int32)) S)) (
    zif (a6 = (3 : Int32)) (
      zM_meets_74 d a2 a3 (5 : Int32) a6 a7 (a8 + (1 : Int32)) S) (
      zM_meets_74 d a2 a3 a5 a6 a7 (a8 + (1 : Int32)) S)) := zeqi d 183 12 195 [some (zr 11 0), none, some (zi a2), some (zi a3), none, some (zi a5), some (zi a6), some (zi a7), some (zi a8), some (zi a9), some (zi a10), none] [] S
set_option maxRecDepth 100000 in
theorem eM_canTry (d : Nat) (a1 : Int32) (a2 : Int32) (a3 : Int32) (S : ZS) : zM_canTry (d + 1) a1 a2 a3 S =
  (zM_isLine d a1 S).bind (fun r1 =>
  zif (r1.1 = 0) (
    some ((0 : Int32), r1.2)) (
    zg (zin a1 40) (
    zif ((r1.2.1 70 0 (zx a1)) = 0) (
      (zM_within d a2 (0 : Int32) (99999 : Int32) r1.2).bind (fun r2 =>
      zif (r2.1 = 0) (
        some ((0 : Int32), r2.2)) (
        (zM_within d a3 (1 : Int32) (5 : Int32) r2.2).bind (fun r3 =>
        zif (r3.1 = 0) (
          some ((0 : Int32), r3.2)) (
          some ((1 : Int32), r3.2)))))) (
      some ((0 : Int32), r1.2))))) := zeqi d 184 12 0 [some (zr 11 0), some (zi a1), some (zi a2), some (zi a3)] [] S
set_option maxRecDepth 100000 in
theorem eM_would (d : Nat) (a1 : Int32) (a2 : Int32) (a3 : Int32) (S : ZS) : zM_would (d + 1) a1 a2 a3 S =
  (zM_canTry d a1 a2 a3 ((zu S.1 11 0 0 (0 : Int32)), S.2)).bind (fun r1 =>
  zif (r1.1 = 0) (
    some ((-1 : Int32), r1.2)) (
    (zM_clears d r1.2).bind (fun r2 =>
    (zM_meets d a1 a2 a3 r2).bind (fun r3 =>
    (zM_clears d r3.2).bind (fun r4 =>
    some (r3.1, r4)))))) := zeqi d 185 12 0 [some (zr 11 0), some (zi a1), some (zi a2), some (zi a3), none] [] S
set_option maxRecDepth 100000 in
theorem eM_block (d : Nat) (a1 : Int32) (a2 : Int32) (a3 : Int32) (a4 : Int32) (a5 : Int32) (a6 : Int32) (S : ZS) : zM_block (d + 1) a1 a2 a3 a4 a5 a6 S =
  (zM_canTry d a1 a2 a3 ((zu S.1 11 0 0 (0 : Int32)), S.2)).bind (fun r1 =>
  zif (r1.1 = 0) (
    some ((-1 : Int32), r1.2)) (
    (zM_canTry d a4 a5 a6 r1.2).bind (fun r2 =>
    zif (r2.1 = 0) (
      some ((-1 : Int32), r2.2)) (
      zif (a1 = a4) (
        some ((-1 : Int32), r2.2)) (
        (zM_clears d r2.2).bind (fun r3 =>
        (zM_meets d a1 a2 a3 r3).bind (fun r4 =>
        zif (r4.1 = (5 : Int32)) (
          zM_block_56 d a1 a2 a3 a4 a5 a6 (1 : Int32) r4.2) (
          zM_block_56 d a1 a2 a3 a4 a5 a6 (0 : Int32) r4.2)))))))) := zeqi d 186 12 0 [some (zr 11 0), some (zi a1), some (zi a2), some (zi a3), some (zi a4), some (zi a5), some (zi a6), none, none, none] [] S
set_option maxRecDepth 100000 in
theorem eM_block_56 (d : Nat) (a1 : Int32) (a2 : Int32) (a3 : Int32) (a4 : Int32) (a5 : Int32) (a6 : Int32) (s0 : Int32) (S : ZS) : zM_block_56 d a1 a2 a3 a4 a5 a6 s0 S =
  (zM_meets d a4 a5 a6 S).bind (fun r1 =>
  (zM_clears d r1.2).bind (fun r2 =>
  (zM_meets d a4 a5 a6 r2).bind (fun r3 =>
  zif (r3.1 = (5 : Int32)) (
    zif (s0 = 0) (
      zM_block_98 d a1 a2 a3 r1.1 (0 : Int32) r3.2) (
      zM_block_98 d a1 a2 a3 r1.1 (1 : Int32) r3.2)) (
    zM_block_98 d a1 a2 a3 r1.1 (0 : Int32) r3.2)))) := zeqi d 186 12 56 [some (zr 11 0), some (zi a1), some (zi a2), some (zi a3), some (zi a4), some (zi a5), some (zi a6), none, none, none] [zi s0] S
set_option maxRecDepth 100000 in
theorem eM_block_98 (d : Nat) (a1 : Int32) (a2 : Int32) (a3 : Int32) (a8 : Int32) (s0 : Int32) (S : ZS) : zM_block_98 d a1 a2 a3 a8 s0 S =
  (zM_meets d a1 a2 a3 S).bind (fun r1 =>
  (zM_clears d r1.2).bind (fun r2 =>
  zif (s0 = 0) (
    some ((-1 : Int32), r2)) (
    zif (a8 = (5 : Int32)) (
      zif (r1.1 = (5 : Int32)) (
        some (((0 : Int32) + (0 : Int32)), r2)) (
        some (((0 : Int32) + (2 : Int32)), r2))) (
      zif (r1.1 = (5 : Int32)) (
        some (((1 : Int32) + (0 : Int32)), r2)) (
        some (((1 : Int32) + (2 : Int32)), r2)))))) := zeqi d 186 12 98 [some (zr 11 0), some (zi a1), some (zi a2), some (zi a3), none, none, none, none, some (zi a8), none] [zi s0] S
set_option maxRecDepth 100000 in
theorem eM_mayUse (d : Nat) (a1 : Int32) (a2 : Int32) (S : ZS) : zM_mayUse (d + 1) a1 a2 S =
  zg (zin a1 116) (
  zif ((S.1 64 0 (zx a1)) < 0) (
    zM_mayUse_23 d a1 S) (
    zif (a2 < 0) (
      some ((0 : Int32), S)) (
      zg (zin a1 116) (
      zif ((S.1 64 0 (zx a1)) = a2) (
        zM_mayUse_23 d a1 S) (
        some ((0 : Int32), S)))))) := zeqi d 187 12 0 [some (zr 11 0), some (zi a1), some (zi a2)] [] S
set_option maxRecDepth 100000 in
theorem eM_mayUse_23 (d : Nat) (a1 : Int32) (S : ZS) : zM_mayUse_23 d a1 S =
  zg (zin a1 116) (
  zif ((S.1 65 0 (zx a1)) = 0) (
    zg (zin a1 116) (
    zif ((S.1 66 0 (zx a1)) = 0) (
      zg (zin a1 116) (
      zif ((S.1 80 0 (zx a1)) = 0) (
        some ((1 : Int32), S)) (
        some ((0 : Int32), S)))) (
      some ((0 : Int32), S)))) (
    some ((0 : Int32), S))) := zeqi d 187 12 23 [some (zr 11 0), some (zi a1), none] [] S
set_option maxRecDepth 100000 in
theorem eM_lays (d : Nat) (a1 : Int32) (a2 : Int32) (a3 : Int32) (a4 : Int32) (a5 : Int32) (a6 : Int32) (S : ZS) : zM_lays (d + 1) a1 a2 a3 a4 a5 a6 S =
  zg (zin a1 40) (
  zg (zin a4 12) (
  (zM_mayUse d (((8 : Int32) * ((zu S.1 11 0 72 (0 : Int32)) 67 0 (zx a1))) + ((zu S.1 11 0 72 (0 : Int32)) 113 0 (zx a4))) a5 ((zu S.1 11 0 72 (0 : Int32)), S.2)).bind (fun r1 =>
  zif (r1.1 = 0) (
    some ((0 : Int32), r1.2)) (
    (zM_takes d (((8 : Int32) * ((zu S.1 11 0 72 (0 : Int32)) 67 0 (zx a1))) + ((zu S.1 11 0 72 (0 : Int32)) 113 0 (zx a4))) r1.2).bind (fun r2 =>
    zM_lays_55 d a1 a2 a3 a4 a5 a6 (((8 : Int32) * ((zu S.1 11 0 72 (0 : Int32)) 67 0 (zx a1))) + ((zu S.1 11 0 72 (0 : Int32)) 113 0 (zx a4))) (1 : Int32) (0 : Int32) (0 : Int32) (0 : Int32) r2))))) := zeqi d 188 12 0 [some (zr 11 0), some (zi a1), some (zi a2), some (zi a3), some (zi a4), some (zi a5), some (zi a6), none, none, none, none, none, none, none, none] [] S
set_option maxRecDepth 100000 in
theorem eM_lays_55 (d : Nat) (a1 : Int32) (a2 : Int32) (a3 : Int32) (a4 : Int32) (a5 : Int32) (a6 : Int32) (a7 : Int32) (a8 : Int32) (a9 : Int32) (a10 : Int32) (a11 : Int32) (S : ZS) : zM_lays_55 d a1 a2 a3 a4 a5 a6 a7 a8 a9 a10 a11 S =
  zif (a3 ≤ a11) (
    some ((a8 - (1 : Int32)), S)) (
    (zM_digitOf d a2 a3 a11 S).bind (fun r1 =>
    (zM_isEnding d a7 r1.2).bind (fun r2 =>
    zif (r2.1 = 0) (
      zg (zin (a7 / (8 : Int32)) 12) (
      bif zz (r2.2.1 61 0 (zx (a7 / (8 : Int32)))) then none else
      zg (zin (a4 + a8) 12) (
      (zM_outletAt d (a7 / (8 : Int32)) ((a7 - a7 / (8 : Int32) * (8 : Int32)) - (a7 - a7 / (8 : Int32) * (8 : Int32)) / (r2.2.1 61 0 (zx (a7 / (8 : Int32)))) * (r2.2.1 61 0 (zx (a7 / (8 : Int32))))) r1.1 (r2.2.1 113 0 (zx (a4 + a8))) r2.2).bind (fun r3 =>
      zg (zin r3.1 960) (
      zif ((r3.2.1 62 0 (zx r3.1)) < 0) (
        some (a8, r3.2)) (
        (zM_mayUse d (r3.2.1 62 0 (zx r3.1)) a5 r3.2).bind (fun r4 =>
        zif (r4.1 = 0) (
          some (a8, r4.2)) (
          (zM_takes d (r3.2.1 62 0 (zx r3.1)) r4.2).bind (fun r5 =>
          zM_lays_55 d a1 a2 a3 a4 a5 a6 (r3.2.1 62 0 (zx r3.1)) (a8 + (1 : Int32)) a9 a10 (a11 + (1 : Int32)) r5))))))))) (
      zif ((a9 + (1 : Int32)) = (1 : Int32)) (
        zM_lays_170 d a1 a2 a3 a4 a5 a6 a7 a8 (a9 + (1 : Int32)) r1.1 a11 r1.1 r2.2) (
        zM_lays_170 d a1 a2 a3 a4 a5 a6 a7 a8 (a9 + (1 : Int32)) a10 a11 r1.1 r2.2))))) := zeqi d 188 12 55 [some (zr 11 0), some (zi a1), some (zi a2), some (zi a3), some (zi a4), some (zi a5), some (zi a6), some (zi a7), some (zi a8), some (zi a9), some (zi a10), some (zi a11), none, none, none] [] S
set_option maxRecDepth 100000 in
theorem eM_lays_170 (d : Nat) (a1 : Int32) (a2 : Int32) (a3 : Int32) (a4 : Int32) (a5 : Int32) (a6 : Int32) (a7 : Int32) (a8 : Int32) (a9 : Int32) (a10 : Int32) (a11 : Int32) (a12 : Int32) (S : ZS) : zM_lays_170 d a1 a2 a3 a4 a5 a6 a7 a8 a9 a10 a11 a12 S =
  zif (a7 < (100 : Int32)) (
    zM_lays_206 d a1 a2 a3 a4 a5 a6 a7 a8 a9 a10 a11 a12 S) (
    zif (a9 = (3 : Int32)) (
      zif (a6 = (-2 : Int32)) (
        some ((-1 : Int32), S)) (
        zif (a6 = (-3 : Int32)) (
          some ((-1 : Int32), S)) (
          some ((a8 - (1 : Int32)), S)))) (
      zM_lays_206 d a1 a2 a3 a4 a5 a6 a7 a8 a9 a10 a11 a12 S)) := zeqi d 188 12 170 [some (zr 11 0), some (zi a1), some (zi a2), some (zi a3), some (zi a4), some (zi a5), some (zi a6), some (zi a7), some (zi a8), some (zi a9), some (zi a10), some (zi a11), some (zi a12), none, none] [] S
set_option maxRecDepth 100000 in
theorem eM_lays_206 (d : Nat) (a1 : Int32) (a2 : Int32) (a3 : Int32) (a4 : Int32) (a5 : Int32) (a6 : Int32) (a7 : Int32) (a8 : Int32) (a9 : Int32) (a10 : Int32) (a11 : Int32) (a12 : Int32) (S : ZS) : zM_lays_206 d a1 a2 a3 a4 a5 a6 a7 a8 a9 a10 a11 a12 S =
  zif ((100 : Int32) ≤ a7) (
    zM_lays_55 d a1 a2 a3 a4 a5 a6 a7 a8 a9 a10 (a11 + (1 : Int32)) S) (
    zif (a9 = (2 : Int32)) (
      (zM_lineOf d (a7 / (8 : Int32)) (((10 : Int32) * a10) + a12) S).bind (fun r1 =>
      zif (r1.1 < 0) (
        zif ((0 : Int32) = 0) (
          some ((a8 - (1 : Int32)), r1.2)) (
          some ((-1 : Int32), r1.2))) (
        zif (a6 = (-2 : Int32)) (
          zg (zin r1.1 40) (
          zif ((r1.2.1 70 0 (zx r1.1)) = 0) (
            zif (r1.1 = a1) (
              zif ((0 : Int32) = 0) (
                some ((a8 - (1 : Int32)), r1.2)) (
                some ((-1 : Int32), r1.2))) (
              zif ((1 : Int32) = 0) (
                some ((a8 - (1 : Int32)), r1.2)) (
                some ((-1 : Int32), r1.2)))) (
            zif ((0 : Int32) = 0) (
              some ((a8 - (1 : Int32)), r1.2)) (
              some ((-1 : Int32), r1.2))))) (
          zif (a6 = r1.1) (
            zif ((1 : Int32) = 0) (
              some ((a8 - (1 : Int32)), r1.2)) (
              some ((-1 : Int32), r1.2))) (
            zif ((0 : Int32) = 0) (
              some ((a8 - (1 : Int32)), r1.2)) (
              some ((-1 : Int32), r1.2))))))) (
      zM_lays_55 d a1 a2 a3 a4 a5 a6 a7 a8 a9 a10 (a11 + (1 : Int32)) S)) := zeqi d 188 12 206 [some (zr 11 0), some (zi a1), some (zi a2), some (zi a3), some (zi a4), some (zi a5), some (zi a6), some (zi a7), some (zi a8), some (zi a9), some (zi a10), some (zi a11), some (zi a12), none, none] [] S
set_option maxRecDepth 100000 in
theorem eM_takes (d : Nat) (a1 : Int32) (S : ZS) : zM_takes (d + 1) a1 S =
  zg (zin a1 116) (
  zg (zbl (1 : Int32)) (
  zg (zin ((zu S.1 80 0 (zx a1) (1 : Int32)) 11 0 72) 16) (
  some ((zu (zu (zu S.1 80 0 (zx a1) (1 : Int32)) 114 0 (zx ((zu S.1 80 0 (zx a1) (1 : Int32)) 11 0 72)) a1) 11 0 72 (((zu (zu S.1 80 0 (zx a1) (1 : Int32)) 114 0 (zx ((zu S.1 80 0 (zx a1) (1 : Int32)) 11 0 72)) a1) 11 0 72) + (1 : Int32))), S.2)))) := zeqv d 189 12 0 [some (zr 11 0), some (zi a1)] [] S
set_option maxRecDepth 100000 in
theorem eM_gives (d : Nat)  (S : ZS) : zM_gives (d + 1)  S =
  zM_gives_2 d (0 : Int32) S := zeqv d 190 12 0 [some (zr 11 0), none] [] S
set_option maxRecDepth 100000 in
theorem eM_gives_2 (d : Nat) (a1 : Int32) (S : ZS) : zM_gives_2 d a1 S =
  zif ((S.1 11 0 72) ≤ a1) (
    some S) (
    zg (zin a1 16) (
    zg (zin (S.1 114 0 (zx a1)) 116) (
    zg (zbl (0 : Int32)) (
    zM_gives_2 d (a1 + (1 : Int32)) ((zu S.1 80 0 (zx (S.1 114 0 (zx a1))) (0 : Int32)), S.2))))) := zeqv d 190 12 2 [some (zr 11 0), some (zi a1)] [] S
set_option maxRecDepth 100000 in
theorem eM_counts (d : Nat) (a1 : Int32) (a2 : Int32) (a3 : Int32) (S : ZS) : zM_counts (d + 1) a1 a2 a3 S =
  zM_counts_5 d a1 a2 a3 (a3 + (1 : Int32)) S := zeqi d 191 12 0 [some (zr 11 0), some (zi a1), some (zi a2), some (zi a3), none] [] S
set_option maxRecDepth 100000 in
theorem eM_counts_5 (d : Nat) (a1 : Int32) (a2 : Int32) (a3 : Int32) (a4 : Int32) (S : ZS) : zM_counts_5 d a1 a2 a3 a4 S =
  zif ((6 : Int32) ≤ a4) (
    zM_counts_31 d a1 a2 a3 S) (
    zg (zin (a2 + a4) 12) (
    zM_counts_5 d a1 a2 a3 (a4 + (1 : Int32)) ((zu S.1 113 0 (zx (a2 + a4)) (0 : Int32)), S.2))) := zeqi d 191 12 5 [some (zr 11 0), some (zi a1), some (zi a2), some (zi a3), some (zi a4)] [] S
set_option maxRecDepth 100000 in
theorem eM_counts_31 (d : Nat) (a1 : Int32) (a2 : Int32) (a4 : Int32) (S : ZS) : zM_counts_31 d a1 a2 a4 S =
  zif (a4 < 0) (
    some ((0 : Int32), S)) (
    zg (zin (a2 + a4) 12) (
    zg (zin (a2 + a4) 12) (
    zg (zin (a2 + a4) 12) (
    zif (a4 = 0) (
      zg (zin a1 40) (
      zg (zin ((zu S.1 113 0 (zx (a2 + a4)) ((S.1 113 0 (zx (a2 + a4))) + (1 : Int32))) 67 0 (zx a1)) 12) (
      zif (((zu S.1 113 0 (zx (a2 + a4)) ((S.1 113 0 (zx (a2 + a4))) + (1 : Int32))) 60 0 (zx ((zu S.1 113 0 (zx (a2 + a4)) ((S.1 113 0 (zx (a2 + a4))) + (1 : Int32))) 67 0 (zx a1)))) ≤ ((zu S.1 113 0 (zx (a2 + a4)) ((S.1 113 0 (zx (a2 + a4))) + (1 : Int32))) 113 0 (zx (a2 + a4)))) (
        zg (zin (a2 + a4) 12) (
        zM_counts_31 d a1 a2 (a4 + (-1 : Int32)) ((zu (zu S.1 113 0 (zx (a2 + a4)) ((S.1 113 0 (zx (a2 + a4))) + (1 : Int32))) 113 0 (zx (a2 + a4)) (0 : Int32)), S.2))) (
        some ((1 : Int32), ((zu S.1 113 0 (zx (a2 + a4)) ((S.1 113 0 (zx (a2 + a4))) + (1 : Int32))), S.2)))))) (
      zif ((4 : Int32) ≤ ((zu S.1 113 0 (zx (a2 + a4)) ((S.1 113 0 (zx (a2 + a4))) + (1 : Int32))) 113 0 (zx (a2 + a4)))) (
        zg (zin (a2 + a4) 12) (
        zM_counts_31 d a1 a2 (a4 + (-1 : Int32)) ((zu (zu S.1 113 0 (zx (a2 + a4)) ((S.1 113 0 (zx (a2 + a4))) + (1 : Int32))) 113 0 (zx (a2 + a4)) (0 : Int32)), S.2))) (
        some ((1 : Int32), ((zu S.1 113 0 (zx (a2 + a4)) ((S.1 113 0 (zx (a2 + a4))) + (1 : Int32))), S.2)))))))) := zeqi d 191 12 31 [some (zr 11 0), some (zi a1), some (zi a2), none, some (zi a4)] [] S
set_option maxRecDepth 100000 in
theorem eM_canLay (d : Nat) (a1 : Int32) (a2 : Int32) (a3 : Int32) (a4 : Int32) (S : ZS) : zM_canLay (d + 1) a1 a2 a3 a4 S =
  zM_canLay_3 d a1 a2 a3 a4 (0 : Int32) S := zeqi d 192 12 0 [some (zr 11 0), some (zi a1), some (zi a2), some (zi a3), some (zi a4), none, none] [] S
set_option maxRecDepth 100000 in
theorem eM_canLay_3 (d : Nat) (a1 : Int32) (a2 : Int32) (a3 : Int32) (a4 : Int32) (a5 : Int32) (S : ZS) : zM_canLay_3 d a1 a2 a3 a4 a5 S =
  zif ((6 : Int32) ≤ a5) (
    zM_canLay_27 d a1 a2 a3 a4 (1 : Int32) S) (
    zg (zin a5 12) (
    zM_canLay_3 d a1 a2 a3 a4 (a5 + (1 : Int32)) ((zu S.1 113 0 (zx a5) (0 : Int32)), S.2))) := zeqi d 192 12 3 [some (zr 11 0), some (zi a1), some (zi a2), some (zi a3), some (zi a4), some (zi a5), none] [] S
set_option maxRecDepth 100000 in
theorem eM_canLay_27 (d : Nat) (a1 : Int32) (a2 : Int32) (a3 : Int32) (a4 : Int32) (a5 : Int32) (S : ZS) : zM_canLay_27 d a1 a2 a3 a4 a5 S =
  zif (a5 = 0) (
    some ((0 : Int32), S)) (
    (zM_lays d a1 a2 a3 (0 : Int32) a4 (-2 : Int32) S).bind (fun r1 =>
    (zM_gives d r1.2).bind (fun r2 =>
    zif (0 ≤ r1.1) (
      (zM_counts d a1 (0 : Int32) r1.1 r2).bind (fun r3 =>
      zM_canLay_27 d a1 a2 a3 a4 r3.1 r3.2)) (
      some ((1 : Int32), r2))))) := zeqi d 192 12 27 [some (zr 11 0), some (zi a1), some (zi a2), some (zi a3), some (zi a4), some (zi a5), none] [] S
set_option maxRecDepth 100000 in
theorem eM_canMove (d : Nat) (a1 : Int32) (a2 : Int32) (a3 : Int32) (a4 : Int32) (S : ZS) : zM_canMove (d + 1) a1 a2 a3 a4 S =
  zM_canMove_6 d a1 a2 a3 a4 (0 : Int32) (0 : Int32) S := zeqi d 193 12 0 [some (zr 11 0), some (zi a1), some (zi a2), some (zi a3), some (zi a4), none, none, none, none, none, none] [] S
set_option maxRecDepth 100000 in
theorem eM_canMove_6 (d : Nat) (a1 : Int32) (a2 : Int32) (a3 : Int32) (a4 : Int32) (a5 : Int32) (a6 : Int32) (S : ZS) : zM_canMove_6 d a1 a2 a3 a4 a5 a6 S =
  zg (zin a1 40) (
  zif ((S.1 73 0 (zx a1)) ≤ a6) (
    zM_canMove_45 d a1 a2 a3 a4 a5 (0 : Int32) S) (
    zg (zin (((5 : Int32) * a1) + a6) 200) (
    zM_canMove_6 d a1 a2 a3 a4 (((10 : Int32) * a5) + (S.1 74 0 (zx (((5 : Int32) * a1) + a6)))) (a6 + (1 : Int32)) S))) := zeqi d 193 12 6 [some (zr 11 0), some (zi a1), some (zi a2), some (zi a3), some (zi a4), some (zi a5), some (zi a6), none, none, none, none] [] S
set_option maxRecDepth 100000 in
theorem eM_canMove_45 (d : Nat) (a1 : Int32) (a2 : Int32) (a3 : Int32) (a4 : Int32) (a5 : Int32) (a6 : Int32) (S : ZS) : zM_canMove_45 d a1 a2 a3 a4 a5 a6 S =
  zif ((6 : Int32) ≤ a6) (
    zM_canMove_72 d a1 a2 a3 a4 a5 (1 : Int32) S) (
    zg (zin ((6 : Int32) + a6) 12) (
    zM_canMove_45 d a1 a2 a3 a4 a5 (a6 + (1 : Int32)) ((zu S.1 113 0 (zx ((6 : Int32) + a6)) (0 : Int32)), S.2))) := zeqi d 193 12 45 [some (zr 11 0), some (zi a1), some (zi a2), some (zi a3), some (zi a4), some (zi a5), some (zi a6), none, none, none, none] [] S
set_option maxRecDepth 100000 in
theorem eM_canMove_72 (d : Nat) (a1 : Int32) (a2 : Int32) (a3 : Int32) (a4 : Int32) (a5 : Int32) (a6 : Int32) (S : ZS) : zM_canMove_72 d a1 a2 a3 a4 a5 a6 S =
  zif (a6 = 0) (
    some ((0 : Int32), S)) (
    zg (zin a1 40) (
    zg (zin a1 40) (
    zif (0 ≤ (S.1 72 0 (zx a1))) (
      zg (zin a1 40) (
      (zM_lays d a1 a5 (S.1 73 0 (zx a1)) (6 : Int32) a1 (S.1 72 0 (zx a1)) S).bind (fun r1 =>
      zM_canMove_124 d a1 a2 a3 a4 a5 r1.1 (r1.2.1 11 0 72) (0 : Int32) r1.2))) (
      (zM_lays d a1 a5 (S.1 73 0 (zx a1)) (6 : Int32) a1 (-3 : Int32) S).bind (fun r2 =>
      zM_canMove_124 d a1 a2 a3 a4 a5 r2.1 (r2.2.1 11 0 72) (0 : Int32) r2.2))))) := zeqi d 193 12 72 [some (zr 11 0), some (zi a1), some (zi a2), some (zi a3), some (zi a4), some (zi a5), some (zi a6), none, none, none, none] [] S
set_option maxRecDepth 100000 in
theorem eM_canMove_124 (d : Nat) (a1 : Int32) (a2 : Int32) (a3 : Int32) (a4 : Int32) (a5 : Int32) (a7 : Int32) (a8 : Int32) (a9 : Int32) (S : ZS) : zM_canMove_124 d a1 a2 a3 a4 a5 a7 a8 a9 S =
  zif (a8 ≤ a9) (
    zif (0 ≤ a7) (
      zM_canMove_178 d a1 a2 a3 a4 a5 a7 a8 (0 : Int32) (0 : Int32) S) (
      (zM_canLay d a2 a3 a4 a1 S).bind (fun r1 =>
      zif (r1.1 = 0) (
        zM_canMove_178 d a1 a2 a3 a4 a5 a7 a8 (0 : Int32) (0 : Int32) r1.2) (
        zM_canMove_178 d a1 a2 a3 a4 a5 a7 a8 (1 : Int32) (0 : Int32) r1.2)))) (
    zg (zin a9 16) (
    zg (zin a9 16) (
    zM_canMove_124 d a1 a2 a3 a4 a5 a7 a8 (a9 + (1 : Int32)) ((zu S.1 115 0 (zx a9) (S.1 114 0 (zx a9))), S.2)))) := zeqi d 193 12 124 [some (zr 11 0), some (zi a1), some (zi a2), some (zi a3), some (zi a4), some (zi a5), none, some (zi a7), some (zi a8), some (zi a9), none] [] S
set_option maxRecDepth 100000 in
theorem eM_canMove_178 (d : Nat) (a1 : Int32) (a2 : Int32) (a3 : Int32) (a4 : Int32) (a5 : Int32) (a7 : Int32) (a8 : Int32) (a9 : Int32) (a10 : Int32) (S : ZS) : zM_canMove_178 d a1 a2 a3 a4 a5 a7 a8 a9 a10 S =
  zif (a8 ≤ a10) (
    zif (a9 = 0) (
      zif (0 ≤ a7) (
        (zM_counts d a1 (6 : Int32) a7 S).bind (fun r1 =>
        zM_canMove_72 d a1 a2 a3 a4 a5 r1.1 r1.2)) (
        (zM_counts d a1 (6 : Int32) (a8 - (1 : Int32)) S).bind (fun r2 =>
        zM_canMove_72 d a1 a2 a3 a4 a5 r2.1 r2.2))) (
      some ((1 : Int32), S))) (
    zg (zin a10 16) (
    zg (zin (S.1 115 0 (zx a10)) 116) (
    zg (zbl (0 : Int32)) (
    zM_canMove_178 d a1 a2 a3 a4 a5 a7 a8 a9 (a10 + (1 : Int32)) ((zu S.1 80 0 (zx (S.1 115 0 (zx a10))) (0 : Int32)), S.2))))) := zeqi d 193 12 178 [some (zr 11 0), some (zi a1), some (zi a2), some (zi a3), some (zi a4), some (zi a5), none, some (zi a7), some (zi a8), some (zi a9), some (zi a10)] [] S
set_option maxRecDepth 100000 in
theorem eM_laid (d : Nat) (a1 : Int32) (a2 : Int32) (a3 : Int32) (a4 : Int32) (S : ZS) : zM_laid (d + 1) a1 a2 a3 a4 S =
  (zM_canTry d a1 a2 a3 ((zu S.1 11 0 0 (0 : Int32)), S.2)).bind (fun r1 =>
  zif (r1.1 = 0) (
    some ((-1 : Int32), r1.2)) (
    (zM_within d a4 (0 : Int32) (1 : Int32) r1.2).bind (fun r2 =>
    zif (r2.1 = 0) (
      some ((-1 : Int32), r2.2)) (
      (zM_clears d r2.2).bind (fun r3 =>
      (zM_canLay d a1 a2 a3 (-1 : Int32) r3).bind (fun r4 =>
      zif (r4.1 = 0) (
        zM_laid_56 d a1 a2 a3 a4 (0 : Int32) r4.2) (
        zif (a4 = 0) (
          some ((0 : Int32), r4.2)) (
          some ((-1 : Int32), r4.2))))))))) := zeqi d 194 12 0 [some (zr 11 0), some (zi a1), some (zi a2), some (zi a3), some (zi a4), none] [] S
set_option maxRecDepth 100000 in
theorem eM_laid_56 (d : Nat) (a1 : Int32) (a2 : Int32) (a3 : Int32) (a4 : Int32) (a5 : Int32) (S : ZS) : zM_laid_56 d a1 a2 a3 a4 a5 S =
  zif ((S.1 11 0 11) ≤ a5) (
    some ((-1 : Int32), S)) (
    zg (zin a5 40) (
    zif ((S.1 70 0 (zx a5)) = (1 : Int32)) (
      zg (zin a5 40) (
      zif ((S.1 71 0 (zx a5)) < (5 : Int32)) (
        zM_laid_56 d a1 a2 a3 a4 (a5 + (1 : Int32)) S) (
        zg (zin a5 40) (
        zif ((5 : Int32) < (S.1 73 0 (zx a5))) (
          zM_laid_56 d a1 a2 a3 a4 (a5 + (1 : Int32)) S) (
          (zM_canMove d a5 a1 a2 a3 S).bind (fun r1 =>
          zif (r1.1 = 0) (
            zM_laid_56 d a1 a2 a3 a4 (a5 + (1 : Int32)) r1.2) (
            zif (a4 = 0) (
              some ((1 : Int32), r1.2)) (
              some (a5, r1.2))))))))) (
      zM_laid_56 d a1 a2 a3 a4 (a5 + (1 : Int32)) S))) := zeqi d 194 12 56 [some (zr 11 0), some (zi a1), some (zi a2), some (zi a3), some (zi a4), some (zi a5)] [] S
set_option maxRecDepth 100000 in
theorem eM_ways (d : Nat) (a0 : Int32) (a1 : Int32) (S : ZS) : zM_ways (d + 1) a0 a1 S =
  zif (a1 < 0) (
    some ((0 : Int32), S)) (
    zif (a1 ≤ a0) (
      zM_ways_15 d a0 a1 (1 : Int32) (1 : Int32) S) (
      some ((0 : Int32), S))) := zeqi d 195 12 0 [some (zi a0), some (zi a1), none, none] [] S
set_option maxRecDepth 100000 in
theorem eM_ways_15 (d : Nat) (a0 : Int32) (a1 : Int32) (a2 : Int32) (a3 : Int32) (S : ZS) : zM_ways_15 d a0 a1 a2 a3 S =
  zif (a1 < a3) (
    some (a2, S)) (
    bif zz a3 then none else
    zM_ways_15 d a0 a1 ((a2 * ((a0 - a1) + a3)) / a3) (a3 + (1 : Int32)) S) := zeqi d 195 12 15 [some (zi a0), some (zi a1), some (zi a2), some (zi a3)] [] S
set_option maxRecDepth 100000 in
theorem eM_losing (d : Nat) (a1 : Int32) (a2 : Int32) (a3 : Int32) (a4 : Int32) (S : ZS) : zM_losing (d + 1) a1 a2 a3 a4 S =
  zM_losing_13 d a1 a2 a3 (0 : Int32) (0 : Int32) a4 (0 : Int32) S := zeqi d 196 12 0 [some (zr 11 0), some (zi a1), some (zi a2), some (zi a3), some (zi a4), none, none, none, none, none, none, none, none, none] [] S
set_option maxRecDepth 100000 in
theorem eM_losing_13 (d : Nat) (a1 : Int32) (a2 : Int32) (a3 : Int32) (a5 : Int32) (a6 : Int32) (a7 : Int32) (a8 : Int32) (S : ZS) : zM_losing_13 d a1 a2 a3 a5 a6 a7 a8 S =
  zif ((232 : Int32) ≤ a8) (
    zM_losing_38 d a1 a2 a3 a5 a6 a7 (0 : Int32) S) (
    zg (zin a8 232) (
    zg (zbl (0 : Int32)) (
    zM_losing_13 d a1 a2 a3 a5 a6 a7 (a8 + (1 : Int32)) ((zu S.1 116 0 (zx a8) (0 : Int32)), S.2)))) := zeqi d 196 12 13 [some (zr 11 0), some (zi a1), some (zi a2), some (zi a3), none, some (zi a5), some (zi a6), some (zi a7), some (zi a8), none, none, none, none, none] [] S
set_option maxRecDepth 100000 in
theorem eM_losing_38 (d : Nat) (a1 : Int32) (a2 : Int32) (a3 : Int32) (a5 : Int32) (a6 : Int32) (a7 : Int32) (a8 : Int32) (S : ZS) : zM_losing_38 d a1 a2 a3 a5 a6 a7 a8 S =
  zg (zin a1 12) (
  zif ((S.1 61 0 (zx a1)) ≤ a8) (
    zM_losing_118 d a1 a3 a5 a6 a7 (0 : Int32) S) (
    zM_losing_52 d a1 a2 a3 a5 a6 a7 a8 (0 : Int32) S)) := zeqi d 196 12 38 [some (zr 11 0), some (zi a1), some (zi a2), some (zi a3), none, some (zi a5), some (zi a6), some (zi a7), some (zi a8), none, none, none, none, none] [] S
set_option maxRecDepth 100000 in
theorem eM_losing_52 (d : Nat) (a1 : Int32) (a2 : Int32) (a3 : Int32) (a5 : Int32) (a6 : Int32) (a7 : Int32) (a8 : Int32) (a9 : Int32) (S : ZS) : zM_losing_52 d a1 a2 a3 a5 a6 a7 a8 a9 S =
  zif ((4 : Int32) ≤ a9) (
    zM_losing_38 d a1 a2 a3 a5 a6 a7 (a8 + (1 : Int32)) S) (
    (zM_outletAt d a1 a8 a2 a9 S).bind (fun r1 =>
    zg (zin r1.1 960) (
    zif ((r1.2.1 62 0 (zx r1.1)) < 0) (
      zM_losing_52 d a1 a2 a3 a5 a6 a7 a8 (a9 + (1 : Int32)) r1.2) (
      zg (zin (r1.2.1 62 0 (zx r1.1)) 116) (
      zif ((r1.2.1 65 0 (zx (r1.2.1 62 0 (zx r1.1)))) = 0) (
        zg (zin (((116 : Int32) * a8) + (r1.2.1 62 0 (zx r1.1))) 232) (
        zg (zbl (1 : Int32)) (
        zM_losing_52 d a1 a2 a3 a5 a6 a7 a8 (a9 + (1 : Int32)) ((zu r1.2.1 116 0 (zx (((116 : Int32) * a8) + (r1.2.1 62 0 (zx r1.1)))) (1 : Int32)), r1.2.2)))) (
        zM_losing_52 d a1 a2 a3 a5 a6 a7 a8 (a9 + (1 : Int32)) r1.2)))))) := zeqi d 196 12 52 [some (zr 11 0), some (zi a1), some (zi a2), some (zi a3), none, some (zi a5), some (zi a6), some (zi a7), some (zi a8), some (zi a9), none, none, none, none] [] S
set_option maxRecDepth 100000 in
theorem eM_losing_118 (d : Nat) (a1 : Int32) (a3 : Int32) (a5 : Int32) (a6 : Int32) (a7 : Int32) (a8 : Int32) (S : ZS) : zM_losing_118 d a1 a3 a5 a6 a7 a8 S =
  zif ((116 : Int32) ≤ a8) (
    zg (zin a1 12) (
    zif ((S.1 61 0 (zx a1)) = (2 : Int32)) (
      zg (zin a1 12) (
      zg (zin a1 12) (
      zM_losing_233 d a3 a5 a6 a7 ((S.1 60 0 (zx a1)) / (2 : Int32)) ((S.1 60 0 (zx a1)) - ((S.1 60 0 (zx a1)) / (2 : Int32))) (0 : Int32) (0 : Int32) S))) (
      zg (zin a1 12) (
      zM_losing_233 d a3 a5 a6 a7 (0 : Int32) ((S.1 60 0 (zx a1)) - (0 : Int32)) (0 : Int32) (0 : Int32) S)))) (
    zg (zin a8 232) (
    zif ((S.1 116 0 (zx a8)) = 0) (
      zM_losing_154 d a1 a3 a5 a6 a7 a8 S) (
      zg (zin ((116 : Int32) + a8) 232) (
      zif ((S.1 116 0 (zx ((116 : Int32) + a8))) = 0) (
        zM_losing_154 d a1 a3 a5 a6 a7 a8 S) (
        zM_losing_118 d a1 a3 a5 a6 (a7 + (1 : Int32)) (a8 + (1 : Int32)) S))))) := zeqi d 196 12 118 [some (zr 11 0), some (zi a1), none, some (zi a3), none, some (zi a5), some (zi a6), some (zi a7), some (zi a8), none, none, none, none, none] [] S
set_option maxRecDepth 100000 in
theorem eM_losing_154 (d : Nat) (a1 : Int32) (a3 : Int32) (a5 : Int32) (a6 : Int32) (a7 : Int32) (a8 : Int32) (S : ZS) : zM_losing_154 d a1 a3 a5 a6 a7 a8 S =
  zg (zin a8 232) (
  zif ((S.1 116 0 (zx a8)) = 0) (
    zg (zin ((116 : Int32) + a8) 232) (
    zif ((S.1 116 0 (zx ((116 : Int32) + a8))) = 0) (
      zM_losing_118 d a1 a3 a5 a6 a7 (a8 + (1 : Int32)) S) (
      zM_losing_118 d a1 a3 a5 (a6 + (1 : Int32)) a7 (a8 + (1 : Int32)) S))) (
    zM_losing_118 d a1 a3 (a5 + (1 : Int32)) a6 a7 (a8 + (1 : Int32)) S)) := zeqi d 196 12 154 [some (zr 11 0), some (zi a1), none, some (zi a3), none, some (zi a5), some (zi a6), some (zi a7), some (zi a8), none, none, none, none, none] [] S
set_option maxRecDepth 100000 in
theorem eM_losing_233 (d : Nat) (a3 : Int32) (a5 : Int32) (a6 : Int32) (a7 : Int32) (a8 : Int32) (a9 : Int32) (a10 : Int32) (a11 : Int32) (S : ZS) : zM_losing_233 d a3 a5 a6 a7 a8 a9 a10 a11 S =
  zif (a3 < a11) (
    some (a10, S)) (
    (zci (zcall d) 1000 [zi (0 : Int32), zi (a11 - a5)] S).bind (fun r1 =>
    (zci (zcall d) 1000 [zi (0 : Int32), zi ((a3 - a11) - a6)] r1.2).bind (fun r2 =>
    zif ((r1.1 + r2.1) ≤ a7) (
      zM_losing_233 d a3 a5 a6 a7 a8 a9 a10 (a11 + (1 : Int32)) r2.2) (
      (zM_ways d a9 a11 r2.2).bind (fun r3 =>
      (zM_ways d a8 (a3 - a11) r3.2).bind (fun r4 =>
      zM_losing_233 d a3 a5 a6 a7 a8 a9 (a10 + (r3.1 * r4.1)) (a11 + (1 : Int32)) r4.2)))))) := zeqi d 196 12 233 [none, none, none, some (zi a3), none, some (zi a5), some (zi a6), some (zi a7), some (zi a8), some (zi a9), some (zi a10), some (zi a11), none, none] [] S
set_option maxRecDepth 100000 in
theorem eM_canLose (d : Nat) (a1 : Int32) (a2 : Int32) (a3 : Int32) (S : ZS) : zM_canLose (d + 1) a1 a2 a3 S =
  (zM_isSelectors d a1 S).bind (fun r1 =>
  zif (r1.1 = 0) (
    some ((0 : Int32), r1.2)) (
    (zM_within d a2 (0 : Int32) (9 : Int32) r1.2).bind (fun r2 =>
    zif (r2.1 = 0) (
      some ((0 : Int32), r2.2)) (
      zg (zin a1 12) (
      (zM_within d a3 (1 : Int32) (r2.2.1 60 0 (zx a1)) r2.2).bind (fun r3 =>
      zif (r3.1 = 0) (
        some ((0 : Int32), r3.2)) (
        some ((1 : Int32), r3.2)))))))) := zeqi d 197 12 0 [some (zr 11 0), some (zi a1), some (zi a2), some (zi a3)] [] S
set_option maxRecDepth 100000 in
theorem eM_lost (d : Nat) (a1 : Int32) (a2 : Int32) (a3 : Int32) (S : ZS) : zM_lost (d + 1) a1 a2 a3 S =
  (zM_canLose d a1 a2 a3 ((zu S.1 11 0 0 (0 : Int32)), S.2)).bind (fun r1 =>
  zif (r1.1 = 0) (
    some ((-1 : Int32), r1.2)) (
    (zM_losing d a1 a2 a3 (0 : Int32) r1.2).bind (fun r2 =>
    some (r2.1, r2.2)))) := zeqi d 198 12 0 [some (zr 11 0), some (zi a1), some (zi a2), some (zi a3)] [] S
set_option maxRecDepth 100000 in
theorem eM_more (d : Nat) (a1 : Int32) (a2 : Int32) (a3 : Int32) (a4 : Int32) (S : ZS) : zM_more (d + 1) a1 a2 a3 a4 S =
  (zM_canLose d a1 a2 a3 ((zu S.1 11 0 0 (0 : Int32)), S.2)).bind (fun r1 =>
  zif (r1.1 = 0) (
    some ((-1 : Int32), r1.2)) (
    (zM_within d a4 (0 : Int32) (1000 : Int32) r1.2).bind (fun r2 =>
    zif (r2.1 = 0) (
      some ((-1 : Int32), r2.2)) (
      zM_more_32 d a1 a2 a3 a4 (0 : Int32) r2.2)))) := zeqi d 199 12 0 [some (zr 11 0), some (zi a1), some (zi a2), some (zi a3), some (zi a4), none] [] S
set_option maxRecDepth 100000 in
theorem eM_more_32 (d : Nat) (a1 : Int32) (a2 : Int32) (a3 : Int32) (a4 : Int32) (a5 : Int32) (S : ZS) : zM_more_32 d a1 a2 a3 a4 a5 S =
  (zM_losing d a1 a2 a3 a5 S).bind (fun r1 =>
  zg (zin a1 12) (
  (zM_ways d (r1.2.1 60 0 (zx a1)) a3 r1.2).bind (fun r2 =>
  zif ((r1.1 * (1000 : Int32)) ≤ (a4 * r2.1)) (
    some (a5, r2.2)) (
    zM_more_32 d a1 a2 a3 a4 (a5 + (1 : Int32)) r2.2)))) := zeqi d 199 12 32 [some (zr 11 0), some (zi a1), some (zi a2), some (zi a3), some (zi a4), some (zi a5)] [] S
set_option maxRecDepth 100000 in
theorem eM_test (d : Nat) (a1 : Int32) (a2 : Int32) (a3 : Int32) (S : ZS) : zM_test (d + 1) a1 a2 a3 S =
  (zM_canTry d a1 a2 a3 ((zu S.1 11 0 0 (0 : Int32)), S.2)).bind (fun r1 =>
  zif (r1.1 = 0) (
    some ((-1 : Int32), r1.2)) (
    (zM_clears d r1.2).bind (fun r2 =>
    (zM_meets d a1 a2 a3 r2).bind (fun r3 =>
    (zM_clears d r3.2).bind (fun r4 =>
    zif (r3.1 = (2 : Int32)) (
      zM_test_46 d r3.1 r4) (
      zif (r3.1 = (5 : Int32)) (
        zM_test_46 d r3.1 r4) (
        some (r3.1, r4)))))))) := zeqi d 200 12 0 [some (zr 11 0), some (zi a1), some (zi a2), some (zi a3), none, none] [] S
set_option maxRecDepth 100000 in
theorem eM_test_46 (d : Nat) (a4 : Int32) (S : ZS) : zM_test_46 d a4 S =
  zif ((S.1 11 0 75) = (60 : Int32)) (
    some (a4, S)) (
    zif (a4 = (2 : Int32)) (
      zg (zin (S.1 11 0 75) 60) (
      zg (zbl (1 : Int32)) (
      zM_test_81 d a4 (0 : Int32) ((zu S.1 117 0 (zx (S.1 11 0 75)) (1 : Int32)), S.2)))) (
      zg (zin (S.1 11 0 75) 60) (
      zg (zbl (0 : Int32)) (
      zM_test_81 d a4 (0 : Int32) ((zu S.1 117 0 (zx (S.1 11 0 75)) (0 : Int32)), S.2))))) := zeqi d 200 12 46 [some (zr 11 0), none, none, none, some (zi a4), none] [] S
set_option maxRecDepth 100000 in
theorem eM_test_81 (d : Nat) (a4 : Int32) (a5 : Int32) (S : ZS) : zM_test_81 d a4 a5 S =
  zif ((96 : Int32) ≤ a5) (
    zM_test_113 d a4 (0 : Int32) S) (
    zg (zin (((96 : Int32) * (S.1 11 0 75)) + a5) 5760) (
    zg (zbl (0 : Int32)) (
    zM_test_81 d a4 (a5 + (1 : Int32)) ((zu S.1 118 0 (zx (((96 : Int32) * (S.1 11 0 75)) + a5)) (0 : Int32)), S.2)))) := zeqi d 200 12 81 [some (zr 11 0), none, none, none, some (zi a4), some (zi a5)] [] S
set_option maxRecDepth 100000 in
theorem eM_test_113 (d : Nat) (a4 : Int32) (a5 : Int32) (S : ZS) : zM_test_113 d a4 a5 S =
  zif ((S.1 11 0 68) ≤ a5) (
    some (a4, ((zu S.1 11 0 75 ((S.1 11 0 75) + (1 : Int32))), S.2))) (
    zg (zin a5 8) (
    zif ((96 : Int32) ≤ (S.1 112 0 (zx a5))) (
      zM_test_113 d a4 (a5 + (1 : Int32)) S) (
      zg (zin a5 8) (
      zg (zin (((96 : Int32) * (S.1 11 0 75)) + (S.1 112 0 (zx a5))) 5760) (
      zg (zbl (1 : Int32)) (
      zM_test_113 d a4 (a5 + (1 : Int32)) ((zu S.1 118 0 (zx (((96 : Int32) * (S.1 11 0 75)) + (S.1 112 0 (zx a5)))) (1 : Int32)), S.2))))))) := zeqi d 200 12 113 [some (zr 11 0), none, none, none, some (zi a4), some (zi a5)] [] S
set_option maxRecDepth 100000 in
theorem eM_explains (d : Nat) (a1 : Int32) (S : ZS) : zM_explains (d + 1) a1 S =
  zM_explains_2 d a1 (0 : Int32) S := zeqi d 201 12 0 [some (zr 11 0), some (zi a1), none, none, none] [] S
set_option maxRecDepth 100000 in
theorem eM_explains_2 (d : Nat) (a1 : Int32) (a2 : Int32) (S : ZS) : zM_explains_2 d a1 a2 S =
  zif ((S.1 11 0 75) ≤ a2) (
    some ((1 : Int32), S)) (
    zM_explains_15 d a1 a2 (0 : Int32) (0 : Int32) S) := zeqi d 201 12 2 [some (zr 11 0), some (zi a1), some (zi a2), none, none] [] S
set_option maxRecDepth 100000 in
theorem eM_explains_15 (d : Nat) (a1 : Int32) (a2 : Int32) (a3 : Int32) (a4 : Int32) (S : ZS) : zM_explains_15 d a1 a2 a3 a4 S =
  zif (a1 ≤ a4) (
    zg (zin a2 60) (
    zif (a3 = (S.1 117 0 (zx a2))) (
      zM_explains_2 d a1 (a2 + (1 : Int32)) S) (
      some ((0 : Int32), S)))) (
    zif (a3 = 0) (
      zg (zin a4 3) (
      zg (zin (((96 : Int32) * a2) + (S.1 119 0 (zx a4))) 5760) (
      zif ((S.1 118 0 (zx (((96 : Int32) * a2) + (S.1 119 0 (zx a4))))) = 0) (
        zM_explains_15 d a1 a2 (0 : Int32) (a4 + (1 : Int32)) S) (
        zM_explains_15 d a1 a2 (1 : Int32) (a4 + (1 : Int32)) S)))) (
      zM_explains_15 d a1 a2 (1 : Int32) (a4 + (1 : Int32)) S)) := zeqi d 201 12 15 [some (zr 11 0), some (zi a1), some (zi a2), some (zi a3), some (zi a4)] [] S
set_option maxRecDepth 100000 in
theorem eM_found (d : Nat) (a1 : Int32) (S : ZS) : zM_found (d + 1) a1 S =
  (zM_explains d a1 S).bind (fun r1 =>
  zif (r1.1 = 0) (
    some r1.2) (
    zif ((r1.2.1 11 0 81) = 0) (
      zM_found_18 d a1 (0 : Int32) r1.2) (
      zM_found_53 d a1 (0 : Int32) ((zu r1.2.1 11 0 81 ((r1.2.1 11 0 81) + (1 : Int32))), r1.2.2)))) := zeqv d 202 12 0 [some (zr 11 0), some (zi a1), none] [] S
set_option maxRecDepth 100000 in
theorem eM_found_18 (d : Nat) (a1 : Int32) (a2 : Int32) (S : ZS) : zM_found_18 d a1 a2 S =
  zif (a1 ≤ a2) (
    zM_found_53 d a1 (0 : Int32) ((zu S.1 11 0 81 ((S.1 11 0 81) + (1 : Int32))), S.2)) (
    zg (zin a2 3) (
    zg (zin a2 3) (
    zM_found_18 d a1 (a2 + (1 : Int32)) ((zu S.1 121 0 (zx a2) (S.1 119 0 (zx a2))), S.2)))) := zeqv d 202 12 18 [some (zr 11 0), some (zi a1), some (zi a2)] [] S
set_option maxRecDepth 100000 in
theorem eM_found_53 (d : Nat) (a1 : Int32) (a2 : Int32) (S : ZS) : zM_found_53 d a1 a2 S =
  zif (a1 ≤ a2) (
    some S) (
    zg (zin a2 3) (
    zg (zin (S.1 119 0 (zx a2)) 96) (
    zg (zin (S.1 119 0 (zx a2)) 96) (
    zM_found_53 d a1 (a2 + (1 : Int32)) ((zu S.1 120 0 (zx (S.1 119 0 (zx a2))) ((S.1 120 0 (zx (S.1 119 0 (zx a2)))) + (1 : Int32))), S.2))))) := zeqv d 202 12 53 [some (zr 11 0), some (zi a1), some (zi a2)] [] S
set_option maxRecDepth 100000 in
theorem eM_fewest (d : Nat)  (S : ZS) : zM_fewest (d + 1)  S =
  zM_fewest_7 d (0 : Int32) ((zu S.1 11 0 81 (0 : Int32)), S.2) := zeqi d 203 12 0 [some (zr 11 0), none, none, none] [] S
set_option maxRecDepth 100000 in
theorem eM_fewest_7 (d : Nat) (a1 : Int32) (S : ZS) : zM_fewest_7 d a1 S =
  zif ((96 : Int32) ≤ a1) (
    (zM_found d (0 : Int32) S).bind (fun r1 =>
    zif ((r1.1 11 0 81) ≤ 0) (
      zM_fewest_42 d (0 : Int32) r1) (
      some ((0 : Int32), r1)))) (
    zg (zin a1 96) (
    zM_fewest_7 d (a1 + (1 : Int32)) ((zu S.1 120 0 (zx a1) (0 : Int32)), S.2))) := zeqi d 203 12 7 [some (zr 11 0), some (zi a1), none, none] [] S
set_option maxRecDepth 100000 in
theorem eM_fewest_42 (d : Nat) (a1 : Int32) (S : ZS) : zM_fewest_42 d a1 S =
  zif ((96 : Int32) ≤ a1) (
    zif ((S.1 11 0 81) ≤ 0) (
      zM_fewest_88 d (0 : Int32) S) (
      some ((1 : Int32), S))) (
    (zM_isSwitch d a1 S).bind (fun r1 =>
    zif (r1.1 = 0) (
      zM_fewest_42 d (a1 + (1 : Int32)) r1.2) (
      zg (zin (0 : Int32) 3) (
      (zM_found d (1 : Int32) ((zu r1.2.1 119 0 (zx (0 : Int32)) a1), r1.2.2)).bind (fun r2 =>
      zM_fewest_42 d (a1 + (1 : Int32)) r2))))) := zeqi d 203 12 42 [some (zr 11 0), some (zi a1), none, none] [] S
set_option maxRecDepth 100000 in
theorem eM_fewest_88 (d : Nat) (a1 : Int32) (S : ZS) : zM_fewest_88 d a1 S =
  zif ((96 : Int32) ≤ a1) (
    zif ((S.1 11 0 81) ≤ 0) (
      zM_fewest_165 d (0 : Int32) S) (
      some ((2 : Int32), S))) (
    zM_fewest_98 d a1 (a1 + (1 : Int32)) S) := zeqi d 203 12 88 [some (zr 11 0), some (zi a1), none, none] [] S
set_option maxRecDepth 100000 in
theorem eM_fewest_98 (d : Nat) (a1 : Int32) (a2 : Int32) (S : ZS) : zM_fewest_98 d a1 a2 S =
  zif ((96 : Int32) ≤ a2) (
    zM_fewest_88 d (a1 + (1 : Int32)) S) (
    (zM_isSwitch d a1 S).bind (fun r1 =>
    zif (r1.1 = 0) (
      zM_fewest_88 d (a1 + (1 : Int32)) r1.2) (
      (zM_isSwitch d a2 r1.2).bind (fun r2 =>
      zif (r2.1 = 0) (
        zM_fewest_98 d a1 (a2 + (1 : Int32)) r2.2) (
        zg (zin (0 : Int32) 3) (
        zg (zin (1 : Int32) 3) (
        (zM_found d (2 : Int32) ((zu (zu r2.2.1 119 0 (zx (0 : Int32)) a1) 119 0 (zx (1 : Int32)) a2), r2.2.2)).bind (fun r3 =>
        zM_fewest_98 d a1 (a2 + (1 : Int32)) r3)))))))) := zeqi d 203 12 98 [some (zr 11 0), some (zi a1), some (zi a2), none] [] S
set_option maxRecDepth 100000 in
theorem eM_fewest_165 (d : Nat) (a1 : Int32) (S : ZS) : zM_fewest_165 d a1 S =
  zif ((96 : Int32) ≤ a1) (
    zif ((S.1 11 0 81) ≤ 0) (
      some ((-1 : Int32), S)) (
      some ((3 : Int32), S))) (
    zM_fewest_175 d a1 (a1 + (1 : Int32)) S) := zeqi d 203 12 165 [some (zr 11 0), some (zi a1), none, none] [] S
set_option maxRecDepth 100000 in
theorem eM_fewest_175 (d : Nat) (a1 : Int32) (a2 : Int32) (S : ZS) : zM_fewest_175 d a1 a2 S =
  zif ((96 : Int32) ≤ a2) (
    zM_fewest_165 d (a1 + (1 : Int32)) S) (
    (zM_isSwitch d a1 S).bind (fun r1 =>
    zif (r1.1 = 0) (
      zM_fewest_165 d (a1 + (1 : Int32)) r1.2) (
      zM_fewest_193 d a1 a2 (a2 + (1 : Int32)) r1.2))) := zeqi d 203 12 175 [some (zr 11 0), some (zi a1), some (zi a2), none] [] S
set_option maxRecDepth 100000 in
theorem eM_fewest_193 (d : Nat) (a1 : Int32) (a2 : Int32) (a3 : Int32) (S : ZS) : zM_fewest_193 d a1 a2 a3 S =
  zif ((96 : Int32) ≤ a3) (
    zM_fewest_175 d a1 (a2 + (1 : Int32)) S) (
    (zM_isSwitch d a2 S).bind (fun r1 =>
    zif (r1.1 = 0) (
      zM_fewest_175 d a1 (a2 + (1 : Int32)) r1.2) (
      (zM_isSwitch d a3 r1.2).bind (fun r2 =>
      zif (r2.1 = 0) (
        zM_fewest_193 d a1 a2 (a3 + (1 : Int32)) r2.2) (
        zg (zin (0 : Int32) 3) (
        zg (zin (1 : Int32) 3) (
        zg (zin (2 : Int32) 3) (
        (zM_found d (3 : Int32) ((zu (zu (zu r2.2.1 119 0 (zx (0 : Int32)) a1) 119 0 (zx (1 : Int32)) a2) 119 0 (zx (2 : Int32)) a3), r2.2.2)).bind (fun r3 =>
        zM_fewest_193 d a1 a2 (a3 + (1 : Int32)) r3))))))))) := zeqi d 203 12 193 [some (zr 11 0), some (zi a1), some (zi a2), some (zi a3)] [] S
set_option maxRecDepth 100000 in
theorem eM_explain (d : Nat) (a1 : Int32) (S : ZS) : zM_explain (d + 1) a1 S =
  (zM_within d a1 (0 : Int32) (3 : Int32) ((zu S.1 11 0 0 (0 : Int32)), S.2)).bind (fun r1 =>
  zif (r1.1 = 0) (
    some ((-1 : Int32), r1.2)) (
    (zM_fewest d r1.2).bind (fun r2 =>
    zif (a1 = 0) (
      some (r2.1, r2.2)) (
      zif (r2.1 < a1) (
        some ((-1 : Int32), r2.2)) (
        zg (zin (a1 - (1 : Int32)) 3) (
        some ((r2.2.1 121 0 (zx (a1 - (1 : Int32)))), r2.2))))))) := zeqi d 204 12 0 [some (zr 11 0), some (zi a1), none] [] S
set_option maxRecDepth 100000 in
theorem eM_sure (d : Nat) (a1 : Int32) (S : ZS) : zM_sure (d + 1) a1 S =
  (zM_isSwitch d a1 ((zu S.1 11 0 0 (0 : Int32)), S.2)).bind (fun r1 =>
  zif (r1.1 = 0) (
    some ((-1 : Int32), r1.2)) (
    (zM_fewest d r1.2).bind (fun r2 =>
    zif (0 ≤ r2.1) (
      zg (zin a1 96) (
      zif ((r2.2.1 120 0 (zx a1)) = (r2.2.1 11 0 81)) (
        some ((1 : Int32), r2.2)) (
        some ((0 : Int32), r2.2)))) (
      some ((-1 : Int32), r2.2))))) := zeqi d 205 12 0 [some (zr 11 0), some (zi a1)] [] S
set_option maxRecDepth 100000 in
theorem eM_forget (d : Nat)  (S : ZS) : zM_forget (d + 1)  S =
  some (((zu S.1 11 0 0 (0 : Int32)) 11 0 75), ((zu (zu S.1 11 0 0 (0 : Int32)) 11 0 75 (0 : Int32)), S.2)) := zeqi d 206 12 0 [some (zr 11 0), none] [] S
set_option maxRecDepth 100000 in
theorem eM_look (d : Nat) (a1 : Int32) (a2 : Int32) (S : ZS) : zM_look (d + 1) a1 a2 S =
  (zM_isLine d a1 ((zu S.1 11 0 0 (0 : Int32)), S.2)).bind (fun r1 =>
  zif (r1.1 = 0) (
    some ((0 : Int32), ((zu r1.2.1 11 0 0 (1 : Int32)), r1.2.2))) (
    (zM_within d a2 (0 : Int32) (5 : Int32) r1.2).bind (fun r2 =>
    zif (r2.1 = 0) (
      some ((0 : Int32), ((zu r2.2.1 11 0 0 (1 : Int32)), r2.2.2))) (
      zif (a2 = 0) (
        zg (zin a1 40) (
        some ((r2.2.1 70 0 (zx a1)), r2.2))) (
        zg (zin a1 40) (
        zif ((r2.2.1 70 0 (zx a1)) = (1 : Int32)) (
          zif (a2 = (1 : Int32)) (
            zg (zin a1 40) (
            some ((r2.2.1 71 0 (zx a1)), r2.2))) (
            zif (a2 = (2 : Int32)) (
              (zM_head d a1 r2.2).bind (fun r3 =>
              some (r3.1, r3.2))) (
              zif (a2 = (3 : Int32)) (
                zg (zin a1 40) (
                some ((r2.2.1 72 0 (zx a1)), r2.2))) (
                zif (a2 = (4 : Int32)) (
                  zg (zin a1 40) (
                  some ((r2.2.1 73 0 (zx a1)), r2.2))) (
                  zg (zin a1 40) (
                  some ((r2.2.1 77 0 (zx a1)), r2.2))))))) (
          some ((-1 : Int32), r2.2)))))))) := zeqi d 207 12 0 [some (zr 11 0), some (zi a1), some (zi a2)] [] S
set_option maxRecDepth 100000 in
theorem eM_path (d : Nat) (a1 : Int32) (a2 : Int32) (S : ZS) : zM_path (d + 1) a1 a2 S =
  (zM_isLine d a1 ((zu S.1 11 0 0 (0 : Int32)), S.2)).bind (fun r1 =>
  zif (r1.1 = 0) (
    some ((-1 : Int32), r1.2)) (
    zg (zin a1 40) (
    zif ((r1.2.1 70 0 (zx a1)) = (1 : Int32)) (
      zg (zin a1 40) (
      (zM_within d a2 (0 : Int32) ((r1.2.1 78 0 (zx a1)) - (1 : Int32)) r1.2).bind (fun r2 =>
      zif (r2.1 = 0) (
        some ((-1 : Int32), r2.2)) (
        zg (zin (((120 : Int32) * a1) + a2) 4800) (
        some ((r2.2.1 79 0 (zx (((120 : Int32) * a1) + a2))), r2.2)))))) (
      some ((-1 : Int32), r1.2))))) := zeqi d 208 12 0 [some (zr 11 0), some (zi a1), some (zi a2)] [] S
set_option maxRecDepth 100000 in
theorem eM_held (d : Nat) (a1 : Int32) (S : ZS) : zM_held (d + 1) a1 S =
  (zM_isEnd d a1 ((zu S.1 11 0 0 (0 : Int32)), S.2)).bind (fun r1 =>
  zif (r1.1 = 0) (
    some ((-1 : Int32), r1.2)) (
    zg (zin a1 116) (
    some ((r1.2.1 64 0 (zx a1)), r1.2)))) := zeqi d 209 12 0 [some (zr 11 0), some (zi a1)] [] S
set_option maxRecDepth 100000 in
theorem eM_book (d : Nat) (a1 : Int32) (a2 : Int32) (S : ZS) : zM_book (d + 1) a1 a2 S =
  (zM_within d a1 (0 : Int32) (((zu S.1 11 0 0 (0 : Int32)) 11 0 27) - (1 : Int32)) ((zu S.1 11 0 0 (0 : Int32)), S.2)).bind (fun r1 =>
  zif (r1.1 = 0) (
    some ((-1 : Int32), r1.2)) (
    (zM_within d a2 (0 : Int32) (3 : Int32) r1.2).bind (fun r2 =>
    zif (r2.1 = 0) (
      some ((-1 : Int32), r2.2)) (
      zif (a2 = 0) (
        zg (zin a1 200) (
        some ((r2.2.1 82 0 (zx a1)), r2.2))) (
        zif (a2 = (1 : Int32)) (
          (zM_unitsBy d a1 (99 : Int32) r2.2).bind (fun r3 =>
          some (r3.1, r3.2))) (
          zif (a2 = (2 : Int32)) (
            zg (zin a1 200) (
            some ((r2.2.1 84 0 (zx a1)), r2.2))) (
            zg (zin a1 200) (
            some ((r2.2.1 85 0 (zx a1)), r2.2))))))))) := zeqi d 210 12 0 [some (zr 11 0), some (zi a1), some (zi a2)] [] S
set_option maxRecDepth 100000 in
theorem eM_count (d : Nat) (a1 : Int32) (S : ZS) : zM_count (d + 1) a1 S =
  zif (a1 = (0 : Int32)) (
    some (((zu S.1 11 0 0 (0 : Int32)) 11 0 1), ((zu S.1 11 0 0 (0 : Int32)), S.2))) (
  zif (a1 = (1 : Int32)) (
    some (((zu S.1 11 0 0 (0 : Int32)) 11 0 2), ((zu S.1 11 0 0 (0 : Int32)), S.2))) (
  zif (a1 = (2 : Int32)) (
    some (((zu S.1 11 0 0 (0 : Int32)) 11 0 11), ((zu S.1 11 0 0 (0 : Int32)), S.2))) (
  zif (a1 = (3 : Int32)) (
    zM_count_93 d (0 : Int32) (0 : Int32) ((zu S.1 11 0 0 (0 : Int32)), S.2)) (
  zif (a1 = (4 : Int32)) (
    zM_count_124 d (0 : Int32) (0 : Int32) ((zu S.1 11 0 0 (0 : Int32)), S.2)) (
  zif (a1 = (5 : Int32)) (
    some (((zu S.1 11 0 0 (0 : Int32)) 11 0 27), ((zu S.1 11 0 0 (0 : Int32)), S.2))) (
  zif (a1 = (6 : Int32)) (
    some (((zu S.1 11 0 0 (0 : Int32)) 11 0 32), ((zu S.1 11 0 0 (0 : Int32)), S.2))) (
  zif (a1 = (7 : Int32)) (
    some (((zu S.1 11 0 0 (0 : Int32)) 11 0 75), ((zu S.1 11 0 0 (0 : Int32)), S.2))) (
  zif (a1 = (8 : Int32)) (
    zg (zin (0 : Int32) 2) (
    some (((zu S.1 11 0 0 (0 : Int32)) 90 0 (zx (0 : Int32))), ((zu S.1 11 0 0 (0 : Int32)), S.2)))) (
  zif (a1 = (9 : Int32)) (
    zg (zin (0 : Int32) 2) (
    some (((zu S.1 11 0 0 (0 : Int32)) 96 0 (zx (0 : Int32))), ((zu S.1 11 0 0 (0 : Int32)), S.2)))) (
  zif (a1 = (10 : Int32)) (
    some (((zu S.1 11 0 0 (0 : Int32)) 11 0 36), ((zu S.1 11 0 0 (0 : Int32)), S.2))) (
  zif (a1 = (11 : Int32)) (
    zM_count_186 d (0 : Int32) (0 : Int32) ((zu S.1 11 0 0 (0 : Int32)), S.2)) (
  zif (a1 = (12 : Int32)) (
    zM_count_214 d (0 : Int32) (100 : Int32) ((zu S.1 11 0 0 (0 : Int32)), S.2)) (
  some ((-1 : Int32), ((zu S.1 11 0 0 (0 : Int32)), S.2))))))))))))))) := zeqi d 211 12 0 [some (zr 11 0), some (zi a1), none, none] [] S
set_option maxRecDepth 100000 in
theorem eM_count_93 (d : Nat) (a2 : Int32) (a3 : Int32) (S : ZS) : zM_count_93 d a2 a3 S =
  zif ((S.1 11 0 11) ≤ a3) (
    some (a2, S)) (
    zg (zin a3 40) (
    zif ((S.1 70 0 (zx a3)) = (1 : Int32)) (
      zM_count_93 d (a2 + (1 : Int32)) (a3 + (1 : Int32)) S) (
      zM_count_93 d a2 (a3 + (1 : Int32)) S))) := zeqi d 211 12 93 [some (zr 11 0), none, some (zi a2), some (zi a3)] [] S
set_option maxRecDepth 100000 in
theorem eM_count_124 (d : Nat) (a2 : Int32) (a3 : Int32) (S : ZS) : zM_count_124 d a2 a3 S =
  zif ((96 : Int32) ≤ a3) (
    some (a2, S)) (
    zg (zin a3 116) (
    zif ((S.1 64 0 (zx a3)) < 0) (
      zM_count_124 d a2 (a3 + (1 : Int32)) S) (
      zM_count_124 d (a2 + (1 : Int32)) (a3 + (1 : Int32)) S))) := zeqi d 211 12 124 [some (zr 11 0), none, some (zi a2), some (zi a3)] [] S
set_option maxRecDepth 100000 in
theorem eM_count_186 (d : Nat) (a2 : Int32) (a3 : Int32) (S : ZS) : zM_count_186 d a2 a3 S =
  zif ((S.1 11 0 2) ≤ a3) (
    some (a2, S)) (
    zg (zin a3 12) (
    zM_count_186 d (a2 + (S.1 60 0 (zx a3))) (a3 + (1 : Int32)) S)) := zeqi d 211 12 186 [some (zr 11 0), none, some (zi a2), some (zi a3)] [] S
set_option maxRecDepth 100000 in
theorem eM_count_214 (d : Nat) (a2 : Int32) (a3 : Int32) (S : ZS) : zM_count_214 d a2 a3 S =
  zif ((116 : Int32) ≤ a3) (
    some (a2, S)) (
    zg (zin a3 116) (
    zif ((S.1 64 0 (zx a3)) < 0) (
      zM_count_214 d a2 (a3 + (1 : Int32)) S) (
      zM_count_214 d (a2 + (1 : Int32)) (a3 + (1 : Int32)) S))) := zeqi d 211 12 214 [some (zr 11 0), none, some (zi a2), some (zi a3)] [] S
set_option maxRecDepth 100000 in
theorem eS0_length_8abf5 (d : Nat) (o0 : Nat) (S : ZS) : zS0_length_8abf5 (d + 1) o0 S =
  (zS0_coder_7d493 d o0 S).bind (fun r1 =>
  some (((Int32.ofNat (zsl o0)) >>> (r1.1 &&& 31)), r1.2)) := zeqi d 212 14 0 [some (zr 13 o0)] [] S
set_option maxRecDepth 100000 in
theorem eS0_charAt_5068e (d : Nat) (o0 : Nat) (a1 : Int32) (S : ZS) : zS0_charAt_5068e (d + 1) o0 a1 S =
  (zS0_isLatin1_aae02 d o0 S).bind (fun r1 =>
  zif (r1.1 = 0) (
    none) (
    (zS1_charAt_3b067 d o0 a1 r1.2).bind (fun r2 =>
    zgc r2.1 (some (r2.1, r2.2))))) := zeqi d 213 14 0 [some (zr 13 o0), some (zi a1)] [] S
set_option maxRecDepth 100000 in
theorem eS0_indexOf_0f7a4 (d : Nat) (o0 : Nat) (a1 : Int32) (S : ZS) : zS0_indexOf_0f7a4 (d + 1) o0 a1 S =
  (zS0_indexOf_7cf53 d o0 a1 (0 : Int32) S).bind (fun r1 =>
  some (r1.1, r1.2)) := zeqi d 214 14 0 [some (zr 13 o0), some (zi a1)] [] S
set_option maxRecDepth 100000 in
theorem eS0_indexOf_7cf53 (d : Nat) (o0 : Nat) (a1 : Int32) (a2 : Int32) (S : ZS) : zS0_indexOf_7cf53 (d + 1) o0 a1 a2 S =
  (zS0_isLatin1_aae02 d o0 S).bind (fun r1 =>
  zif (r1.1 = 0) (
    (zS0_length_8abf5 d o0 r1.2).bind (fun r2 =>
    none)) (
    (zS0_length_8abf5 d o0 r1.2).bind (fun r3 =>
    (zS1_indexOf_4cfef d o0 a1 a2 r3.1 r3.2).bind (fun r4 =>
    some (r4.1, r4.2))))) := zeqi d 215 14 0 [some (zr 13 o0), some (zi a1), some (zi a2)] [] S
set_option maxRecDepth 100000 in
theorem eS0_coder_7d493 (d : Nat) (o0 : Nat) (S : ZS) : zS0_coder_7d493 (d + 1) o0 S =
  zif ((1 : Int32) = 0) (
    some ((1 : Int32), S)) (
    some ((0 : Int32), S)) := zeqi d 216 14 0 [some (zr 13 o0)] [] S
set_option maxRecDepth 100000 in
theorem eS0_isLatin1_aae02 (d : Nat) (o0 : Nat) (S : ZS) : zS0_isLatin1_aae02 (d + 1) o0 S =
  zif ((1 : Int32) = 0) (
    some ((0 : Int32), S)) (
    zif ((0 : Int32) = 0) (
      some ((1 : Int32), S)) (
      some ((0 : Int32), S))) := zeqi d 217 14 0 [some (zr 13 o0)] [] S
set_option maxRecDepth 100000 in
theorem eS0_checkIndex_df160 (d : Nat) (a0 : Int32) (a1 : Int32) (S : ZS) : zS0_checkIndex_df160 (d + 1) a0 a1 S =
  (zS3_checkIndex_8e157 d a0 a1 (S.2.2.1 19 0 0) S).bind (fun r1 =>
  some r1.2) := zeqv d 218 14 0 [some (zi a0), some (zi a1)] [] S
set_option maxRecDepth 100000 in
theorem eS1_charAt_3b067 (d : Nat) (o0 : Nat) (a1 : Int32) (S : ZS) : zS1_charAt_3b067 (d + 1) o0 a1 S =
  (zS0_checkIndex_df160 d a1 (Int32.ofNat (zsl o0)) S).bind (fun r1 =>
  zg (zin a1 (zsl o0)) (
  zgc (((zscw o0 (zx a1)) &&& (255 : Int32)).toUInt32 % 65536).toInt32 (some ((((zscw o0 (zx a1)) &&& (255 : Int32)).toUInt32 % 65536).toInt32, r1)))) := zeqi d 219 15 0 [some (zr 18 o0), some (zi a1)] [] S
set_option maxRecDepth 100000 in
theorem eS1_canEncode_9a6ad (d : Nat) (a0 : Int32) (S : ZS) : zS1_canEncode_9a6ad (d + 1) a0 S =
  zif (a0 < 0) (
    some ((0 : Int32), S)) (
    zif ((255 : Int32) < a0) (
      some ((0 : Int32), S)) (
      some ((1 : Int32), S))) := zeqi d 220 15 0 [some (zi a0)] [] S
set_option maxRecDepth 100000 in
theorem eS1_indexOf_4cfef (d : Nat) (o0 : Nat) (a1 : Int32) (a2 : Int32) (a3 : Int32) (S : ZS) : zS1_indexOf_4cfef (d + 1) o0 a1 a2 a3 S =
  (zS1_canEncode_9a6ad d a1 S).bind (fun r1 =>
  zif (r1.1 = 0) (
    some ((-1 : Int32), r1.2)) (
    (zci (zcall d) 1000 [zi a2, zi (0 : Int32)] r1.2).bind (fun r2 =>
    (zci (zcall d) 1001 [zi a3, zi (Int32.ofNat (zsl o0))] r2.2).bind (fun r3 =>
    zif (r2.1 < r3.1) (
      (zS1_indexOfChar_4cfef d o0 a1 r2.1 r3.1 r3.2).bind (fun r4 =>
      some (r4.1, r4.2))) (
      some ((-1 : Int32), r3.2)))))) := zeqi d 221 15 0 [some (zr 18 o0), some (zi a1), some (zi a2), some (zi a3)] [] S
set_option maxRecDepth 100000 in
theorem eS1_indexOfChar_4cfef (d : Nat) (o0 : Nat) (a1 : Int32) (a2 : Int32) (a3 : Int32) (S : ZS) : zS1_indexOfChar_4cfef (d + 1) o0 a1 a2 a3 S =
  zS1_indexOfChar_4cfef_7 d o0 a3 a1.toInt8.toInt32 a2 S := zeqi d 222 15 0 [some (zr 18 o0), some (zi a1), some (zi a2), some (zi a3), none, none] [] S
set_option maxRecDepth 100000 in
theorem eS1_indexOfChar_4cfef_7 (d : Nat) (a0 : Nat) (a3 : Int32) (a4 : Int32) (a5 : Int32) (S : ZS) : zS1_indexOfChar_4cfef_7 d a0 a3 a4 a5 S =
  zif (a3 ≤ a5) (
    some ((-1 : Int32), S)) (
    zg (zin a5 (zsl a0)) (
    zif ((zscw a0 (zx a5)) = a4) (
      some (a5, S)) (
      zS1_indexOfChar_4cfef_7 d a0 a3 a4 (a5 + (1 : Int32)) S))) := zeqi d 222 15 7 [some (zr 18 a0), none, none, some (zi a3), some (zi a4), some (zi a5)] [] S
set_option maxRecDepth 100000 in
theorem eS3_checkIndex_8e157 (d : Nat) (a0 : Int32) (a1 : Int32) (o2 : Option ZR) (S : ZS) : zS3_checkIndex_8e157 (d + 1) a0 a1 o2 S =
  zif (a0 < 0) (
    none) (
    zif (a0 < a1) (
      some (a0, S)) (
      none)) := zeqi d 223 16 0 [some (zi a0), some (zi a1), some (zo o2)] [] S
set_option maxRecDepth 100000 in
theorem eP_sectionOf (d : Nat) (a1 : Int32) (S : ZS) : zP_sectionOf (d + 1) a1 S =
  zg (zin (a1 / (8 : Int32)) 12) (
  zif ((S.1 35 0 (zx (a1 / (8 : Int32)))) = (2 : Int32)) (
    some ((a1 - a1 / (2 : Int32) * (2 : Int32)), S)) (
    some ((0 : Int32), S))) := zeqi d 224 4 0 [some (zr 4 0), some (zi a1)] [] S
set_option maxRecDepth 100000 in
theorem eY_law_23 (d : Nat) (a4 : Int32) (S : ZS) : zY_law_23 d a4 S =
  zif (((Int32.ofNat (S.1 16 1 0).toNatClampNeg) - (7 : Int32)) < a4) (
    some ((1 : Int32), S)) (
    zg (zin a4 (S.1 16 1 0).toNatClampNeg) (
    zif (((S.1 16 0 (zx a4)) &&& (31 : Int32)) = (0 : Int32)) (
      zg (zin (a4 + (1 : Int32)) (S.1 16 1 0).toNatClampNeg) (
      (zX_seconds d (S.1 16 0 (zx (a4 + (1 : Int32)))) S).bind (fun r1 =>
      zg (zin (a4 + (1 : Int32)) (r1.2.1 16 1 0).toNatClampNeg) (
      (zM_seconds d (r1.2.1 16 0 (zx (a4 + (1 : Int32)))) r1.2).bind (fun r2 =>
      zif (r1.1 = r2.1) (
        zY_law_23 d (a4 + (7 : Int32)) r2.2) (
        some ((0 : Int32), r2.2))))))) (
    zif (((S.1 16 0 (zx a4)) &&& (31 : Int32)) = (1 : Int32)) (
      zg (zin (a4 + (1 : Int32)) (S.1 16 1 0).toNatClampNeg) (
      zg (zin (a4 + (2 : Int32)) (S.1 16 1 0).toNatClampNeg) (
      zg (zin (a4 + (3 : Int32)) (S.1 16 1 0).toNatClampNeg) (
      (zX_rack d (S.1 16 0 (zx (a4 + (1 : Int32)))) (S.1 16 0 (zx (a4 + (2 : Int32)))) (S.1 16 0 (zx (a4 + (3 : Int32)))) S).bind (fun r3 =>
      zg (zin (a4 + (1 : Int32)) (r3.2.1 16 1 0).toNatClampNeg) (
      zg (zin (a4 + (2 : Int32)) (r3.2.1 16 1 0).toNatClampNeg) (
      zg (zin (a4 + (3 : Int32)) (r3.2.1 16 1 0).toNatClampNeg) (
      (zM_rack d (r3.2.1 16 0 (zx (a4 + (1 : Int32)))) (r3.2.1 16 0 (zx (a4 + (2 : Int32)))) (r3.2.1 16 0 (zx (a4 + (3 : Int32)))) r3.2).bind (fun r4 =>
      zif (r3.1 = r4.1) (
        zY_law_23 d (a4 + (7 : Int32)) r4.2) (
        some ((0 : Int32), r4.2))))))))))) (
    zif (((S.1 16 0 (zx a4)) &&& (31 : Int32)) = (2 : Int32)) (
      zg (zin (a4 + (1 : Int32)) (S.1 16 1 0).toNatClampNeg) (
      zg (zin (a4 + (2 : Int32)) (S.1 16 1 0).toNatClampNeg) (
      zg (zin (a4 + (3 : Int32)) (S.1 16 1 0).toNatClampNeg) (
      zg (zin (a4 + (4 : Int32)) (S.1 16 1 0).toNatClampNeg) (
      zg (zin (a4 + (5 : Int32)) (S.1 16 1 0).toNatClampNeg) (
      (zX_outlet d (S.1 16 0 (zx (a4 + (1 : Int32)))) (S.1 16 0 (zx (a4 + (2 : Int32)))) (S.1 16 0 (zx (a4 + (3 : Int32)))) (S.1 16 0 (zx (a4 + (4 : Int32)))) (S.1 16 0 (zx (a4 + (5 : Int32)))) S).bind (fun r5 =>
      zg (zin (a4 + (1 : Int32)) (r5.2.1 16 1 0).toNatClampNeg) (
      zg (zin (a4 + (2 : Int32)) (r5.2.1 16 1 0).toNatClampNeg) (
      zg (zin (a4 + (3 : Int32)) (r5.2.1 16 1 0).toNatClampNeg) (
      zg (zin (a4 + (4 : Int32)) (r5.2.1 16 1 0).toNatClampNeg) (
      zg (zin (a4 + (5 : Int32)) (r5.2.1 16 1 0).toNatClampNeg) (
      (zM_outlet d (r5.2.1 16 0 (zx (a4 + (1 : Int32)))) (r5.2.1 16 0 (zx (a4 + (2 : Int32)))) (r5.2.1 16 0 (zx (a4 + (3 : Int32)))) (r5.2.1 16 0 (zx (a4 + (4 : Int32)))) (r5.2.1 16 0 (zx (a4 + (5 : Int32)))) r5.2).bind (fun r6 =>
      zif (r5.1 = r6.1) (
        zY_law_23 d (a4 + (7 : Int32)) r6.2) (
        some ((0 : Int32), r6.2))))))))))))))) (
    zif (((S.1 16 0 (zx a4)) &&& (31 : Int32)) = (3 : Int32)) (
      zg (zin (a4 + (1 : Int32)) (S.1 16 1 0).toNatClampNeg) (
      zg (zin (a4 + (2 : Int32)) (S.1 16 1 0).toNatClampNeg) (
      (zX_zone d (S.1 16 0 (zx (a4 + (1 : Int32)))) (S.1 16 0 (zx (a4 + (2 : Int32)))) S).bind (fun r7 =>
      zg (zin (a4 + (1 : Int32)) (r7.2.1 16 1 0).toNatClampNeg) (
      zg (zin (a4 + (2 : Int32)) (r7.2.1 16 1 0).toNatClampNeg) (
      (zM_zone d (r7.2.1 16 0 (zx (a4 + (1 : Int32)))) (r7.2.1 16 0 (zx (a4 + (2 : Int32)))) r7.2).bind (fun r8 =>
      zif (r7.1 = r8.1) (
        zY_law_23 d (a4 + (7 : Int32)) r8.2) (
        some ((0 : Int32), r8.2))))))))) (
    zif (((S.1 16 0 (zx a4)) &&& (31 : Int32)) = (4 : Int32)) (
      zg (zin (a4 + (1 : Int32)) (S.1 16 1 0).toNatClampNeg) (
      zg (zin (a4 + (2 : Int32)) (S.1 16 1 0).toNatClampNeg) (
      zg (zin (a4 + (3 : Int32)) (S.1 16 1 0).toNatClampNeg) (
      (zX_line d (S.1 16 0 (zx (a4 + (1 : Int32)))) (S.1 16 0 (zx (a4 + (2 : Int32)))) (S.1 16 0 (zx (a4 + (3 : Int32)))) S).bind (fun r9 =>
      zg (zin (a4 + (1 : Int32)) (r9.2.1 16 1 0).toNatClampNeg) (
      zg (zin (a4 + (2 : Int32)) (r9.2.1 16 1 0).toNatClampNeg) (
      zg (zin (a4 + (3 : Int32)) (r9.2.1 16 1 0).toNatClampNeg) (
      (zM_line d (r9.2.1 16 0 (zx (a4 + (1 : Int32)))) (r9.2.1 16 0 (zx (a4 + (2 : Int32)))) (r9.2.1 16 0 (zx (a4 + (3 : Int32)))) r9.2).bind (fun r10 =>
      zif (r9.1 = r10.1) (
        zY_law_23 d (a4 + (7 : Int32)) r10.2) (
        some ((0 : Int32), r10.2))))))))))) (
    zif (((S.1 16 0 (zx a4)) &&& (31 : Int32)) = (5 : Int32)) (
      zg (zin (a4 + (1 : Int32)) (S.1 16 1 0).toNatClampNeg) (
      zg (zin (a4 + (2 : Int32)) (S.1 16 1 0).toNatClampNeg) (
      zif ((S.1 16 0 (zx (a4 + (2 : Int32)))) = 0) (
        zY_law_426 d a4 (0 : Int32) (S.1 16 0 (zx (a4 + (1 : Int32)))) S) (
        zY_law_426 d a4 (1 : Int32) (S.1 16 0 (zx (a4 + (1 : Int32)))) S)))) (
    zif (((S.1 16 0 (zx a4)) &&& (31 : Int32)) = (6 : Int32)) (
      zg (zin (a4 + (1 : Int32)) (S.1 16 1 0).toNatClampNeg) (
      zg (zin (a4 + (2 : Int32)) (S.1 16 1 0).toNatClampNeg) (
      zif ((S.1 16 0 (zx (a4 + (2 : Int32)))) = 0) (
        zY_law_479 d a4 (0 : Int32) (S.1 16 0 (zx (a4 + (1 : Int32)))) S) (
        zY_law_479 d a4 (1 : Int32) (S.1 16 0 (zx (a4 + (1 : Int32)))) S)))) (
    zif (((S.1 16 0 (zx a4)) &&& (31 : Int32)) = (7 : Int32)) (
      zg (zin (a4 + (1 : Int32)) (S.1 16 1 0).toNatClampNeg) (
      (zX_lift d (S.1 16 0 (zx (a4 + (1 : Int32)))) S).bind (fun r11 =>
      zg (zin (a4 + (1 : Int32)) (r11.2.1 16 1 0).toNatClampNeg) (
      (zM_lift d (r11.2.1 16 0 (zx (a4 + (1 : Int32)))) r11.2).bind (fun r12 =>
      zif (r11.1 = r12.1) (
        zY_law_23 d (a4 + (7 : Int32)) r12.2) (
        some ((0 : Int32), r12.2))))))) (
    zif (((S.1 16 0 (zx a4)) &&& (31 : Int32)) = (8 : Int32)) (
      zg (zin (a4 + (1 : Int32)) (S.1 16 1 0).toNatClampNeg) (
      zg (zin (a4 + (2 : Int32)) (S.1 16 1 0).toNatClampNeg) (
      (zX_dial d (S.1 16 0 (zx (a4 + (1 : Int32)))) (S.1 16 0 (zx (a4 + (2 : Int32)))) S).bind (fun r13 =>
      zg (zin (a4 + (1 : Int32)) (r13.2.1 16 1 0).toNatClampNeg) (
      zg (zin (a4 + (2 : Int32)) (r13.2.1 16 1 0).toNatClampNeg) (
      (zM_dial d (r13.2.1 16 0 (zx (a4 + (1 : Int32)))) (r13.2.1 16 0 (zx (a4 + (2 : Int32)))) r13.2).bind (fun r14 =>
      zif (r13.1 = r14.1) (
        zY_law_23 d (a4 + (7 : Int32)) r14.2) (
        some ((0 : Int32), r14.2))))))))) (
    zif (((S.1 16 0 (zx a4)) &&& (31 : Int32)) = (9 : Int32)) (
      zg (zin (a4 + (1 : Int32)) (S.1 16 1 0).toNatClampNeg) (
      (zX_answer d (S.1 16 0 (zx (a4 + (1 : Int32)))) S).bind (fun r15 =>
      zg (zin (a4 + (1 : Int32)) (r15.2.1 16 1 0).toNatClampNeg) (
      (zM_answer d (r15.2.1 16 0 (zx (a4 + (1 : Int32)))) r15.2).bind (fun r16 =>
      zif (r15.1 = r16.1) (
        zY_law_23 d (a4 + (7 : Int32)) r16.2) (
        some ((0 : Int32), r16.2))))))) (
    zif (((S.1 16 0 (zx a4)) &&& (31 : Int32)) = (10 : Int32)) (
      zg (zin (a4 + (1 : Int32)) (S.1 16 1 0).toNatClampNeg) (
      (zX_end d (S.1 16 0 (zx (a4 + (1 : Int32)))) S).bind (fun r17 =>
      zg (zin (a4 + (1 : Int32)) (r17.2.1 16 1 0).toNatClampNeg) (
      (zM_end d (r17.2.1 16 0 (zx (a4 + (1 : Int32)))) r17.2).bind (fun r18 =>
      zif (r17.1 = r18.1) (
        zY_law_23 d (a4 + (7 : Int32)) r18.2) (
        some ((0 : Int32), r18.2))))))) (
    zif (((S.1 16 0 (zx a4)) &&& (31 : Int32)) = (11 : Int32)) (
      zg (zin (a4 + (1 : Int32)) (S.1 16 1 0).toNatClampNeg) (
      zg (zin (a4 + (2 : Int32)) (S.1 16 1 0).toNatClampNeg) (
      zg (zin (a4 + (3 : Int32)) (S.1 16 1 0).toNatClampNeg) (
      zg (zin (a4 + (4 : Int32)) (S.1 16 1 0).toNatClampNeg) (
      zg (zin (a4 + (5 : Int32)) (S.1 16 1 0).toNatClampNeg) (
      zg (zin (a4 + (6 : Int32)) (S.1 16 1 0).toNatClampNeg) (
      (zX_feed d (((S.1 16 0 (zx (a4 + (1 : Int32)))).toInt64 <<< ((32 : Int32).toInt64 &&& 63)) ||| ((S.1 16 0 (zx (a4 + (2 : Int32)))).toInt64 &&& (4294967295 : Int64))) (((S.1 16 0 (zx (a4 + (3 : Int32)))).toInt64 <<< ((32 : Int32).toInt64 &&& 63)) ||| ((S.1 16 0 (zx (a4 + (4 : Int32)))).toInt64 &&& (4294967295 : Int64))) (((S.1 16 0 (zx (a4 + (5 : Int32)))).toInt64 <<< ((32 : Int32).toInt64 &&& 63)) ||| ((S.1 16 0 (zx (a4 + (6 : Int32)))).toInt64 &&& (4294967295 : Int64))) S).bind (fun r19 =>
      zg (zin (a4 + (1 : Int32)) (r19.2.1 16 1 0).toNatClampNeg) (
      zg (zin (a4 + (2 : Int32)) (r19.2.1 16 1 0).toNatClampNeg) (
      zg (zin (a4 + (3 : Int32)) (r19.2.1 16 1 0).toNatClampNeg) (
      zg (zin (a4 + (4 : Int32)) (r19.2.1 16 1 0).toNatClampNeg) (
      zg (zin (a4 + (5 : Int32)) (r19.2.1 16 1 0).toNatClampNeg) (
      zg (zin (a4 + (6 : Int32)) (r19.2.1 16 1 0).toNatClampNeg) (
      (zM_feed d (((r19.2.1 16 0 (zx (a4 + (1 : Int32)))).toInt64 <<< ((32 : Int32).toInt64 &&& 63)) ||| ((r19.2.1 16 0 (zx (a4 + (2 : Int32)))).toInt64 &&& (4294967295 : Int64))) (((r19.2.1 16 0 (zx (a4 + (3 : Int32)))).toInt64 <<< ((32 : Int32).toInt64 &&& 63)) ||| ((r19.2.1 16 0 (zx (a4 + (4 : Int32)))).toInt64 &&& (4294967295 : Int64))) (((r19.2.1 16 0 (zx (a4 + (5 : Int32)))).toInt64 <<< ((32 : Int32).toInt64 &&& 63)) ||| ((r19.2.1 16 0 (zx (a4 + (6 : Int32)))).toInt64 &&& (4294967295 : Int64))) r19.2).bind (fun r20 =>
      zif (r19.1 = r20.1) (
        zY_law_23 d (a4 + (7 : Int32)) r20.2) (
        some ((0 : Int32), r20.2))))))))))))))))) (
    zif (((S.1 16 0 (zx a4)) &&& (31 : Int32)) = (12 : Int32)) (
      (zX_tariff d S).bind (fun r21 =>
      (zM_tariff d r21.2).bind (fun r22 =>
      zif (r21.1 = r22.1) (
        zY_law_23 d (a4 + (7 : Int32)) r22.2) (
        some ((0 : Int32), r22.2))))) (
    zif (((S.1 16 0 (zx a4)) &&& (31 : Int32)) = (13 : Int32)) (
      zg (zin (a4 + (1 : Int32)) (S.1 16 1 0).toNatClampNeg) (
      zg (zin (a4 + (2 : Int32)) (S.1 16 1 0).toNatClampNeg) (
      (zX_word d (S.1 16 0 (zx (a4 + (1 : Int32)))) (S.1 16 0 (zx (a4 + (2 : Int32)))) S).bind (fun r23 =>
      zg (zin (a4 + (1 : Int32)) (r23.2.1 16 1 0).toNatClampNeg) (
      zg (zin (a4 + (2 : Int32)) (r23.2.1 16 1 0).toNatClampNeg) (
      (zM_word d (r23.2.1 16 0 (zx (a4 + (1 : Int32)))) (r23.2.1 16 0 (zx (a4 + (2 : Int32)))) r23.2).bind (fun r24 =>
      zif (r23.1 = r24.1) (
        zY_law_23 d (a4 + (7 : Int32)) r24.2) (
        some ((0 : Int32), r24.2))))))))) (
    zif (((S.1 16 0 (zx a4)) &&& (31 : Int32)) = (14 : Int32)) (
      zg (zin (a4 + (1 : Int32)) (S.1 16 1 0).toNatClampNeg) (
      zg (zin (a4 + (2 : Int32)) (S.1 16 1 0).toNatClampNeg) (
      zg (zin (a4 + (3 : Int32)) (S.1 16 1 0).toNatClampNeg) (
      zg (zin (a4 + (4 : Int32)) (S.1 16 1 0).toNatClampNeg) (
      (zX_bill d (S.1 16 0 (zx (a4 + (1 : Int32)))) (S.1 16 0 (zx (a4 + (2 : Int32)))) (S.1 16 0 (zx (a4 + (3 : Int32)))) (S.1 16 0 (zx (a4 + (4 : Int32)))) S).bind (fun r25 =>
      zg (zin (a4 + (1 : Int32)) (r25.2.1 16 1 0).toNatClampNeg) (
      zg (zin (a4 + (2 : Int32)) (r25.2.1 16 1 0).toNatClampNeg) (
      zg (zin (a4 + (3 : Int32)) (r25.2.1 16 1 0).toNatClampNeg) (
      zg (zin (a4 + (4 : Int32)) (r25.2.1 16 1 0).toNatClampNeg) (
      (zM_bill d (r25.2.1 16 0 (zx (a4 + (1 : Int32)))) (r25.2.1 16 0 (zx (a4 + (2 : Int32)))) (r25.2.1 16 0 (zx (a4 + (3 : Int32)))) (r25.2.1 16 0 (zx (a4 + (4 : Int32)))) r25.2).bind (fun r26 =>
      zif (r25.1 = r26.1) (
        zY_law_23 d (a4 + (7 : Int32)) r26.2) (
        some ((0 : Int32), r26.2))))))))))))) (
    zif (((S.1 16 0 (zx a4)) &&& (31 : Int32)) = (15 : Int32)) (
      zg (zin (a4 + (1 : Int32)) (S.1 16 1 0).toNatClampNeg) (
      zg (zin (a4 + (2 : Int32)) (S.1 16 1 0).toNatClampNeg) (
      zg (zin (a4 + (3 : Int32)) (S.1 16 1 0).toNatClampNeg) (
      (zX_would d (S.1 16 0 (zx (a4 + (1 : Int32)))) (S.1 16 0 (zx (a4 + (2 : Int32)))) (S.1 16 0 (zx (a4 + (3 : Int32)))) S).bind (fun r27 =>
      zg (zin (a4 + (1 : Int32)) (r27.2.1 16 1 0).toNatClampNeg) (
      zg (zin (a4 + (2 : Int32)) (r27.2.1 16 1 0).toNatClampNeg) (
      zg (zin (a4 + (3 : Int32)) (r27.2.1 16 1 0).toNatClampNeg) (
      (zM_would d (r27.2.1 16 0 (zx (a4 + (1 : Int32)))) (r27.2.1 16 0 (zx (a4 + (2 : Int32)))) (r27.2.1 16 0 (zx (a4 + (3 : Int32)))) r27.2).bind (fun r28 =>
      zif (r27.1 = r28.1) (
        zY_law_23 d (a4 + (7 : Int32)) r28.2) (
        some ((0 : Int32), r28.2))))))))))) (
    zif (((S.1 16 0 (zx a4)) &&& (31 : Int32)) = (16 : Int32)) (
      zg (zin (a4 + (1 : Int32)) (S.1 16 1 0).toNatClampNeg) (
      zg (zin (a4 + (2 : Int32)) (S.1 16 1 0).toNatClampNeg) (
      zg (zin (a4 + (3 : Int32)) (S.1 16 1 0).toNatClampNeg) (
      zg (zin (a4 + (4 : Int32)) (S.1 16 1 0).toNatClampNeg) (
      zg (zin (a4 + (5 : Int32)) (S.1 16 1 0).toNatClampNeg) (
      zg (zin (a4 + (6 : Int32)) (S.1 16 1 0).toNatClampNeg) (
      (zX_block d (S.1 16 0 (zx (a4 + (1 : Int32)))) (S.1 16 0 (zx (a4 + (2 : Int32)))) (S.1 16 0 (zx (a4 + (3 : Int32)))) (S.1 16 0 (zx (a4 + (4 : Int32)))) (S.1 16 0 (zx (a4 + (5 : Int32)))) (S.1 16 0 (zx (a4 + (6 : Int32)))) S).bind (fun r29 =>
      zg (zin (a4 + (1 : Int32)) (r29.2.1 16 1 0).toNatClampNeg) (
      zg (zin (a4 + (2 : Int32)) (r29.2.1 16 1 0).toNatClampNeg) (
      zg (zin (a4 + (3 : Int32)) (r29.2.1 16 1 0).toNatClampNeg) (
      zg (zin (a4 + (4 : Int32)) (r29.2.1 16 1 0).toNatClampNeg) (
      zg (zin (a4 + (5 : Int32)) (r29.2.1 16 1 0).toNatClampNeg) (
      zg (zin (a4 + (6 : Int32)) (r29.2.1 16 1 0).toNatClampNeg) (
      (zM_block d (r29.2.1 16 0 (zx (a4 + (1 : Int32)))) (r29.2.1 16 0 (zx (a4 + (2 : Int32)))) (r29.2.1 16 0 (zx (a4 + (3 : Int32)))) (r29.2.1 16 0 (zx (a4 + (4 : Int32)))) (r29.2.1 16 0 (zx (a4 + (5 : Int32)))) (r29.2.1 16 0 (zx (a4 + (6 : Int32)))) r29.2).bind (fun r30 =>
      zif (r29.1 = r30.1) (
        zY_law_23 d (a4 + (7 : Int32)) r30.2) (
        some ((0 : Int32), r30.2))))))))))))))))) (
    zif (((S.1 16 0 (zx a4)) &&& (31 : Int32)) = (17 : Int32)) (
      zg (zin (a4 + (1 : Int32)) (S.1 16 1 0).toNatClampNeg) (
      zg (zin (a4 + (2 : Int32)) (S.1 16 1 0).toNatClampNeg) (
      zg (zin (a4 + (3 : Int32)) (S.1 16 1 0).toNatClampNeg) (
      zg (zin (a4 + (4 : Int32)) (S.1 16 1 0).toNatClampNeg) (
      (zX_laid d (S.1 16 0 (zx (a4 + (1 : Int32)))) (S.1 16 0 (zx (a4 + (2 : Int32)))) (S.1 16 0 (zx (a4 + (3 : Int32)))) (S.1 16 0 (zx (a4 + (4 : Int32)))) S).bind (fun r31 =>
      zg (zin (a4 + (1 : Int32)) (r31.2.1 16 1 0).toNatClampNeg) (
      zg (zin (a4 + (2 : Int32)) (r31.2.1 16 1 0).toNatClampNeg) (
      zg (zin (a4 + (3 : Int32)) (r31.2.1 16 1 0).toNatClampNeg) (
      zg (zin (a4 + (4 : Int32)) (r31.2.1 16 1 0).toNatClampNeg) (
      (zM_laid d (r31.2.1 16 0 (zx (a4 + (1 : Int32)))) (r31.2.1 16 0 (zx (a4 + (2 : Int32)))) (r31.2.1 16 0 (zx (a4 + (3 : Int32)))) (r31.2.1 16 0 (zx (a4 + (4 : Int32)))) r31.2).bind (fun r32 =>
      zif (r31.1 = r32.1) (
        zY_law_23 d (a4 + (7 : Int32)) r32.2) (
        some ((0 : Int32), r32.2))))))))))))) (
    zif (((S.1 16 0 (zx a4)) &&& (31 : Int32)) = (18 : Int32)) (
      zg (zin (a4 + (1 : Int32)) (S.1 16 1 0).toNatClampNeg) (
      zg (zin (a4 + (2 : Int32)) (S.1 16 1 0).toNatClampNeg) (
      zg (zin (a4 + (3 : Int32)) (S.1 16 1 0).toNatClampNeg) (
      (zX_lost d (S.1 16 0 (zx (a4 + (1 : Int32)))) (S.1 16 0 (zx (a4 + (2 : Int32)))) (S.1 16 0 (zx (a4 + (3 : Int32)))) S).bind (fun r33 =>
      zg (zin (a4 + (1 : Int32)) (r33.2.1 16 1 0).toNatClampNeg) (
      zg (zin (a4 + (2 : Int32)) (r33.2.1 16 1 0).toNatClampNeg) (
      zg (zin (a4 + (3 : Int32)) (r33.2.1 16 1 0).toNatClampNeg) (
      (zM_lost d (r33.2.1 16 0 (zx (a4 + (1 : Int32)))) (r33.2.1 16 0 (zx (a4 + (2 : Int32)))) (r33.2.1 16 0 (zx (a4 + (3 : Int32)))) r33.2).bind (fun r34 =>
      zif (r33.1 = r34.1) (
        zY_law_23 d (a4 + (7 : Int32)) r34.2) (
        some ((0 : Int32), r34.2))))))))))) (
    zif (((S.1 16 0 (zx a4)) &&& (31 : Int32)) = (19 : Int32)) (
      zg (zin (a4 + (1 : Int32)) (S.1 16 1 0).toNatClampNeg) (
      zg (zin (a4 + (2 : Int32)) (S.1 16 1 0).toNatClampNeg) (
      zg (zin (a4 + (3 : Int32)) (S.1 16 1 0).toNatClampNeg) (
      zg (zin (a4 + (4 : Int32)) (S.1 16 1 0).toNatClampNeg) (
      (zX_more d (S.1 16 0 (zx (a4 + (1 : Int32)))) (S.1 16 0 (zx (a4 + (2 : Int32)))) (S.1 16 0 (zx (a4 + (3 : Int32)))) (S.1 16 0 (zx (a4 + (4 : Int32)))) S).bind (fun r35 =>
      zg (zin (a4 + (1 : Int32)) (r35.2.1 16 1 0).toNatClampNeg) (
      zg (zin (a4 + (2 : Int32)) (r35.2.1 16 1 0).toNatClampNeg) (
      zg (zin (a4 + (3 : Int32)) (r35.2.1 16 1 0).toNatClampNeg) (
      zg (zin (a4 + (4 : Int32)) (r35.2.1 16 1 0).toNatClampNeg) (
      (zM_more d (r35.2.1 16 0 (zx (a4 + (1 : Int32)))) (r35.2.1 16 0 (zx (a4 + (2 : Int32)))) (r35.2.1 16 0 (zx (a4 + (3 : Int32)))) (r35.2.1 16 0 (zx (a4 + (4 : Int32)))) r35.2).bind (fun r36 =>
      zif (r35.1 = r36.1) (
        zY_law_23 d (a4 + (7 : Int32)) r36.2) (
        some ((0 : Int32), r36.2))))))))))))) (
    zif (((S.1 16 0 (zx a4)) &&& (31 : Int32)) = (20 : Int32)) (
      zg (zin (a4 + (1 : Int32)) (S.1 16 1 0).toNatClampNeg) (
      zg (zin (a4 + (2 : Int32)) (S.1 16 1 0).toNatClampNeg) (
      zg (zin (a4 + (3 : Int32)) (S.1 16 1 0).toNatClampNeg) (
      (zX_test d (S.1 16 0 (zx (a4 + (1 : Int32)))) (S.1 16 0 (zx (a4 + (2 : Int32)))) (S.1 16 0 (zx (a4 + (3 : Int32)))) S).bind (fun r37 =>
      zg (zin (a4 + (1 : Int32)) (r37.2.1 16 1 0).toNatClampNeg) (
      zg (zin (a4 + (2 : Int32)) (r37.2.1 16 1 0).toNatClampNeg) (
      zg (zin (a4 + (3 : Int32)) (r37.2.1 16 1 0).toNatClampNeg) (
      (zM_test d (r37.2.1 16 0 (zx (a4 + (1 : Int32)))) (r37.2.1 16 0 (zx (a4 + (2 : Int32)))) (r37.2.1 16 0 (zx (a4 + (3 : Int32)))) r37.2).bind (fun r38 =>
      zif (r37.1 = r38.1) (
        zY_law_23 d (a4 + (7 : Int32)) r38.2) (
        some ((0 : Int32), r38.2))))))))))) (
    zif (((S.1 16 0 (zx a4)) &&& (31 : Int32)) = (21 : Int32)) (
      zg (zin (a4 + (1 : Int32)) (S.1 16 1 0).toNatClampNeg) (
      (zX_explain d (S.1 16 0 (zx (a4 + (1 : Int32)))) S).bind (fun r39 =>
      zg (zin (a4 + (1 : Int32)) (r39.2.1 16 1 0).toNatClampNeg) (
      (zM_explain d (r39.2.1 16 0 (zx (a4 + (1 : Int32)))) r39.2).bind (fun r40 =>
      zif (r39.1 = r40.1) (
        zY_law_23 d (a4 + (7 : Int32)) r40.2) (
        some ((0 : Int32), r40.2))))))) (
    zif (((S.1 16 0 (zx a4)) &&& (31 : Int32)) = (22 : Int32)) (
      zg (zin (a4 + (1 : Int32)) (S.1 16 1 0).toNatClampNeg) (
      (zX_sure d (S.1 16 0 (zx (a4 + (1 : Int32)))) S).bind (fun r41 =>
      zg (zin (a4 + (1 : Int32)) (r41.2.1 16 1 0).toNatClampNeg) (
      (zM_sure d (r41.2.1 16 0 (zx (a4 + (1 : Int32)))) r41.2).bind (fun r42 =>
      zif (r41.1 = r42.1) (
        zY_law_23 d (a4 + (7 : Int32)) r42.2) (
        some ((0 : Int32), r42.2))))))) (
    zif (((S.1 16 0 (zx a4)) &&& (31 : Int32)) = (23 : Int32)) (
      (zX_forget d S).bind (fun r43 =>
      (zM_forget d r43.2).bind (fun r44 =>
      zif (r43.1 = r44.1) (
        zY_law_23 d (a4 + (7 : Int32)) r44.2) (
        some ((0 : Int32), r44.2))))) (
    zif (((S.1 16 0 (zx a4)) &&& (31 : Int32)) = (24 : Int32)) (
      zg (zin (a4 + (1 : Int32)) (S.1 16 1 0).toNatClampNeg) (
      zg (zin (a4 + (2 : Int32)) (S.1 16 1 0).toNatClampNeg) (
      (zci (zcall d) 1008 [zr 10 0, zi (S.1 16 0 (zx (a4 + (1 : Int32)))), zi (S.1 16 0 (zx (a4 + (2 : Int32)))), zr 17 0] S).bind (fun r45 =>
      zg (zin (a4 + (1 : Int32)) (r45.2.1 16 1 0).toNatClampNeg) (
      zg (zin (a4 + (2 : Int32)) (r45.2.1 16 1 0).toNatClampNeg) (
      (zM_look d (r45.2.1 16 0 (zx (a4 + (1 : Int32)))) (r45.2.1 16 0 (zx (a4 + (2 : Int32)))) r45.2).bind (fun r46 =>
      (zM_thrown d r46.2).bind (fun r47 =>
      zif (r47.1 = r45.1) (
        zif (r45.1 = 0) (
          zg (zin (0 : Int32) 1) (
          zif ((lg_cmp (r47.2.2.1 17 0 (zx (0 : Int32))) r46.1.toInt64) = 0) (
            zY_law_23 d (a4 + (7 : Int32)) r47.2) (
            some ((0 : Int32), r47.2)))) (
          zY_law_23 d (a4 + (7 : Int32)) r47.2)) (
        some ((0 : Int32), r47.2)))))))))) (
    zif (((S.1 16 0 (zx a4)) &&& (31 : Int32)) = (25 : Int32)) (
      zg (zin (a4 + (1 : Int32)) (S.1 16 1 0).toNatClampNeg) (
      zg (zin (a4 + (2 : Int32)) (S.1 16 1 0).toNatClampNeg) (
      (zX_path d (S.1 16 0 (zx (a4 + (1 : Int32)))) (S.1 16 0 (zx (a4 + (2 : Int32)))) S).bind (fun r48 =>
      zg (zin (a4 + (1 : Int32)) (r48.2.1 16 1 0).toNatClampNeg) (
      zg (zin (a4 + (2 : Int32)) (r48.2.1 16 1 0).toNatClampNeg) (
      (zM_path d (r48.2.1 16 0 (zx (a4 + (1 : Int32)))) (r48.2.1 16 0 (zx (a4 + (2 : Int32)))) r48.2).bind (fun r49 =>
      zif (r48.1 = r49.1) (
        zY_law_23 d (a4 + (7 : Int32)) r49.2) (
        some ((0 : Int32), r49.2))))))))) (
    zif (((S.1 16 0 (zx a4)) &&& (31 : Int32)) = (26 : Int32)) (
      zg (zin (a4 + (1 : Int32)) (S.1 16 1 0).toNatClampNeg) (
      (zX_held d (S.1 16 0 (zx (a4 + (1 : Int32)))) S).bind (fun r50 =>
      zg (zin (a4 + (1 : Int32)) (r50.2.1 16 1 0).toNatClampNeg) (
      (zM_held d (r50.2.1 16 0 (zx (a4 + (1 : Int32)))) r50.2).bind (fun r51 =>
      zif (r50.1 = r51.1) (
        zY_law_23 d (a4 + (7 : Int32)) r51.2) (
        some ((0 : Int32), r51.2))))))) (
    zif (((S.1 16 0 (zx a4)) &&& (31 : Int32)) = (27 : Int32)) (
      zg (zin (a4 + (1 : Int32)) (S.1 16 1 0).toNatClampNeg) (
      zg (zin (a4 + (2 : Int32)) (S.1 16 1 0).toNatClampNeg) (
      (zX_book d (S.1 16 0 (zx (a4 + (1 : Int32)))) (S.1 16 0 (zx (a4 + (2 : Int32)))) S).bind (fun r52 =>
      zg (zin (a4 + (1 : Int32)) (r52.2.1 16 1 0).toNatClampNeg) (
      zg (zin (a4 + (2 : Int32)) (r52.2.1 16 1 0).toNatClampNeg) (
      (zM_book d (r52.2.1 16 0 (zx (a4 + (1 : Int32)))) (r52.2.1 16 0 (zx (a4 + (2 : Int32)))) r52.2).bind (fun r53 =>
      zif (r52.1 = r53.1) (
        zY_law_23 d (a4 + (7 : Int32)) r53.2) (
        some ((0 : Int32), r53.2))))))))) (
    zif (((S.1 16 0 (zx a4)) &&& (31 : Int32)) = (28 : Int32)) (
      zg (zin (a4 + (1 : Int32)) (S.1 16 1 0).toNatClampNeg) (
      (zX_count d (S.1 16 0 (zx (a4 + (1 : Int32)))) S).bind (fun r54 =>
      zg (zin (a4 + (1 : Int32)) (r54.2.1 16 1 0).toNatClampNeg) (
      (zM_count d (r54.2.1 16 0 (zx (a4 + (1 : Int32)))) r54.2).bind (fun r55 =>
      zif (r54.1 = r55.1) (
        zY_law_23 d (a4 + (7 : Int32)) r55.2) (
        some ((0 : Int32), r55.2))))))) (
    zY_law_23 d (a4 + (7 : Int32)) S))))))))))))))))))))))))))))))) := zeqi d 225 13 23 [some (zr 16 0), some (zr 10 0), some (zr 11 0), some (zr 17 0), some (zi a4), none, none] [] S
set_option maxRecDepth 100000 in
theorem eY_law_426 (d : Nat) (a4 : Int32) (s0 : Int32) (s1 : Int32) (S : ZS) : zY_law_426 d a4 s0 s1 S =
  (zX_out d s1 s0 S).bind (fun r1 =>
  zg (zin (a4 + (1 : Int32)) (r1.2.1 16 1 0).toNatClampNeg) (
  zg (zin (a4 + (2 : Int32)) (r1.2.1 16 1 0).toNatClampNeg) (
  zif ((r1.2.1 16 0 (zx (a4 + (2 : Int32)))) = 0) (
    (zM_out d (r1.2.1 16 0 (zx (a4 + (1 : Int32)))) (0 : Int32) r1.2).bind (fun r2 =>
    zif (r1.1 = r2.1) (
      zY_law_23 d (a4 + (7 : Int32)) r2.2) (
      some ((0 : Int32), r2.2)))) (
    (zM_out d (r1.2.1 16 0 (zx (a4 + (1 : Int32)))) (1 : Int32) r1.2).bind (fun r3 =>
    zif (r1.1 = r3.1) (
      zY_law_23 d (a4 + (7 : Int32)) r3.2) (
      some ((0 : Int32), r3.2))))))) := zeqi d 225 13 426 [some (zr 16 0), some (zr 10 0), some (zr 11 0), some (zr 17 0), some (zi a4), none, none] [zi s0, zi s1, zr 10 0] S
set_option maxRecDepth 100000 in
theorem eY_law_479 (d : Nat) (a4 : Int32) (s0 : Int32) (s1 : Int32) (S : ZS) : zY_law_479 d a4 s0 s1 S =
  (zX_faulty d s1 s0 S).bind (fun r1 =>
  zg (zin (a4 + (1 : Int32)) (r1.2.1 16 1 0).toNatClampNeg) (
  zg (zin (a4 + (2 : Int32)) (r1.2.1 16 1 0).toNatClampNeg) (
  zif ((r1.2.1 16 0 (zx (a4 + (2 : Int32)))) = 0) (
    (zM_faulty d (r1.2.1 16 0 (zx (a4 + (1 : Int32)))) (0 : Int32) r1.2).bind (fun r2 =>
    zif (r1.1 = r2.1) (
      zY_law_23 d (a4 + (7 : Int32)) r2.2) (
      some ((0 : Int32), r2.2)))) (
    (zM_faulty d (r1.2.1 16 0 (zx (a4 + (1 : Int32)))) (1 : Int32) r1.2).bind (fun r3 =>
    zif (r1.1 = r3.1) (
      zY_law_23 d (a4 + (7 : Int32)) r3.2) (
      some ((0 : Int32), r3.2))))))) := zeqi d 225 13 479 [some (zr 16 0), some (zr 10 0), some (zr 11 0), some (zr 17 0), some (zi a4), none, none] [zi s0, zi s1, zr 10 0] S
