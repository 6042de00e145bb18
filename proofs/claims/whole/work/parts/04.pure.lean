-- X0_startFor
def f_X0_startFor (S : tg_S) (v1 : Int32) : Option (tg_S) :=
  tg_pf S 49 3 v1 fun S1 =>
  tg_pf S1 49 0 (-1) fun S2 =>
  tg_pf S2 49 1 (-1) fun S3 =>
  tg_pf S3 49 2 (-1) fun S4 =>
  some S4
-- X0_offer
def f_X0_offer_51 (S : tg_S) (v1 : Int32) (v2 : Int32) (v3 : Int32) : Option (tg_S) :=
  tg_pf S 49 0 v1 fun S1 =>
  tg_pf S1 49 1 v2 fun S2 =>
  tg_pf S2 49 2 v3 fun S3 =>
  some S3
def f_X0_offer_36 (S : tg_S) (v1 : Int32) (v2 : Int32) (v3 : Int32) (s0 : Int32) : Option (tg_S) :=
  tg_if ((S 49 0) = (-1))
    (f_X0_offer_51 S v1 v2 v3)
    (tg_if (s0 = 0)
        (some S)
        (f_X0_offer_51 S v1 v2 v3))
def f_X0_offer (S : tg_S) (v1 : Int32) (v2 : Int32) (v3 : Int32) : Option (tg_S) :=
  f_X0_offer_36 S v1 v2 v3 (if (S 49 3) = 0 then (if v3 ≤ (S 49 2) then 0 else 1) else (if (S 49 2) ≤ v3 then 0 else 1))
-- X4_append
def f_X4_append (S : tg_S) (v1 : Int32) (v2 : Int32) : Option (tg_S × Int32) :=
  tg_wr S 5 8 (S 4 2) v1 fun S1 =>
  tg_wr S1 6 8 (S1 4 2) v2 fun S2 =>
  tg_pf S2 4 2 ((S2 4 2) + 1) fun S3 =>
  some (S3, S3 4 2)
-- X4_fit
def f_X4_fit_2 (rec2 : tg_S → Int32 → Option (tg_S × Int32)) (S : tg_S) (v2 : Int32) : Option (tg_S × Int32) :=
  tg_if ((S 4 2) ≤ v2)
    (some (S, 1))
    (tg_rd S 5 8 v2 fun y2 =>
      tg_rd S 43 24 y2 fun y3 =>
      tg_rd S 6 8 v2 fun y4 =>
      tg_if (y3 = y4)
        (tg_nm (v2 + 1 : Int32) fun y6 =>
          rec2 S y6)
        (some (S, 0)))
def L_X4_fit_2 : Nat → tg_S → Int32 → Option (tg_S × Int32)
  | 0 => fun _ _ => none
  | n + 1 => f_X4_fit_2  (L_X4_fit_2  n)
def f_X4_fit (S : tg_S) : Option (tg_S × Int32) :=
  L_X4_fit_2 tg_F S 0
-- X5_isLost
def f_X5_isLost (S : tg_S) (v1 : Int32) : Option (tg_S × Int32) :=
  tg_rd S 10 4 v1 fun y1 =>
  tg_if (y1 = (-1))
    (some (S, 1))
    (some (S, 0))
-- X5_size
def f_X5_size (S : tg_S) (v1 : Int32) : Option (tg_S × Int32) :=
  tg_rd S 10 4 v1 fun y1 =>
  some (S, y1)
-- X5_renew
def f_X5_renew_17 (rec17 : tg_S → Int32 → Int32 → Int32 → Option (tg_S)) (S : tg_S) (v1 : Int32) (v3 : Int32) (v4 : Int32) : Option (tg_S) :=
  tg_if (v3 ≤ v4)
    (some S)
    (tg_wr S 8 240 ((v1 * 60) + v4) 0 fun S2 =>
      tg_nm (v4 + 1 : Int32) fun y3 =>
      rec17 S2 v1 v3 y3)
def L_X5_renew_17 : Nat → tg_S → Int32 → Int32 → Int32 → Option (tg_S)
  | 0 => fun _ _ _ _ => none
  | n + 1 => f_X5_renew_17  (L_X5_renew_17  n)
def f_X5_renew (S : tg_S) (v1 : Int32) (v2 : Int32) (v3 : Int32) : Option (tg_S) :=
  tg_wr S 9 4 v1 v2 fun S1 =>
  tg_wr S1 10 4 v1 v3 fun S2 =>
  L_X5_renew_17 tg_F S2 v1 v3 0
-- X5_drop
def f_X5_drop (S : tg_S) (v1 : Int32) : Option (tg_S × Int32) :=
  tg_rd S 10 4 v1 fun y1 =>
  tg_wr S 10 4 v1 (-1) fun S2 =>
  some (S2, y1)
-- X7_isBelow
def f_X7_isBelow (S : tg_S) (v0 : Int32) (v1 : Int32) : Option (tg_S × Int32) :=
  tg_if (v0 < 0)
    (some (S, 0))
    (tg_if (v1 ≤ v0)
        (some (S, 0))
        (some (S, 1)))
-- X5_whatIsWrong
def f_X5_whatIsWrong (S : tg_S) (v1 : Int32) (v2 : Int32) (v3 : Int32) : Option (tg_S × Int32) :=
  tg_bd (f_X5_isLost S v1) fun S1 r2 =>
  tg_if (r2 = 0)
    (tg_rd S1 9 4 v1 fun y4 =>
      tg_if (y4 = v2)
        (tg_rd S1 10 4 v1 fun y6 =>
          tg_bd (f_X7_isBelow S1 v3 y6) fun S7 r8 =>
          tg_if (r8 = 0)
            (some (S7, 2))
            (some (S7, 0)))
        (some (S1, 3)))
    (some (S1, 1))
-- X5_areAlike
def f_X5_areAlike (S : tg_S) (v1 : Int32) (v2 : Int32) : Option (tg_S × Int32) :=
  tg_rd S 9 4 v1 fun y1 =>
  tg_rd S 9 4 v2 fun y2 =>
  tg_if (y1 = y2)
    (some (S, 1))
    (some (S, 0))
-- X5_holds
def f_X5_holds (S : tg_S) (v1 : Int32) (v2 : Int32) (v3 : Int32) : Option (tg_S × Int32) :=
  tg_if (v2 < 0)
    (some (S, 0))
    (tg_rd S 10 4 v1 fun y2 =>
      tg_if (y2 < v2)
        (some (S, 0))
        (tg_rd S 10 4 v1 fun y4 =>
          tg_if ((y4 - v2) < v3)
            (some (S, 0))
            (some (S, 1))))
-- X5_item
def f_X5_item (S : tg_S) (v1 : Int32) (v2 : Int32) : Option (tg_S × Int32) :=
  tg_rd S 8 240 ((v1 * 60) + v2) fun y1 =>
  some (S, y1)
-- X5_store
def f_X5_store_33 (S : tg_S) (v1 : Int32) (v2 : Int32) (v4 : Int32) : Option (tg_S) :=
  tg_wr S 8 240 ((v1 * 60) + v2) v4 fun S1 =>
  some S1
def f_X5_store (S : tg_S) (v1 : Int32) (v2 : Int32) (v3 : Int32) : Option (tg_S) :=
  tg_rd S 9 4 v1 fun y1 =>
  tg_if (y1 = 0)
    (tg_nm (v3.toInt8.toInt32 : Int32) fun y6 =>
      f_X5_store_33 S v1 v2 y6)
    (tg_rd S 9 4 v1 fun y3 =>
      tg_if (y3 = 1)
        (tg_nm (v3.toInt16.toInt32 : Int32) fun y5 =>
          f_X5_store_33 S v1 v2 y5)
        (f_X5_store_33 S v1 v2 v3))
-- X5_move
def f_X5_move (S : tg_S) (v1 : Int32) (v2 : Int32) (v3 : Int32) (v4 : Int32) (v5 : Int32) : Option (tg_S) :=
  tg_cp S 8 8 240 240 ((v1 * 60) + v2) ((v3 * 60) + v4) v5 fun S1 =>
  some S1
-- X6_isFull
def f_X6_isFull_18 (S : tg_S) (s0 : Int32) (s1 : Int32) : Option (tg_S × Int32) :=
  tg_if (s1 < s0)
    (some (S, 0))
    (some (S, 1))
def f_X6_isFull (S : tg_S) (v1 : Int32) : Option (tg_S × Int32) :=
  tg_rd S 3 4 v1 fun y1 =>
  f_X6_isFull_18 S (if 2 ≤ v1 then 24 else 31) y1
-- X6_append
def f_X6_append (S : tg_S) (v1 : Int32) (v2 : Int32) : Option (tg_S × Int32) :=
  tg_rd S 3 4 v1 fun y1 =>
  tg_wr S 2 124 ((v1 * 31) + y1) v2 fun S2 =>
  tg_rd S2 3 4 v1 fun y3 =>
  tg_wr S2 3 4 v1 (y3 + 1) fun S4 =>
  tg_rd S4 3 4 v1 fun y5 =>
  some (S4, y5)
-- X6_clear
def f_X6_clear (S : tg_S) (v1 : Int32) : Option (tg_S × Int32) :=
  tg_rd S 3 4 v1 fun y1 =>
  tg_wr S 3 4 v1 0 fun S2 =>
  some (S2, y1)
-- X6_cutLast
def f_X6_cutLast (S : tg_S) (v1 : Int32) : Option (tg_S × Int32) :=
  tg_rd S 3 4 v1 fun y1 =>
  tg_wr S 3 4 v1 (y1 - 1) fun S2 =>
  tg_rd S2 3 4 v1 fun y3 =>
  some (S2, y3)
-- X6_length
def f_X6_length (S : tg_S) (v1 : Int32) : Option (tg_S × Int32) :=
  tg_rd S 3 4 v1 fun y1 =>
  some (S, y1)
-- X6_lengthOfAll
def f_X6_lengthOfAll_4 (rec4 : tg_S → Int32 → Int32 → Option (tg_S × Int32)) (S : tg_S) (v1 : Int32) (v2 : Int32) : Option (tg_S × Int32) :=
  tg_if (4 ≤ v2)
    (some (S, v1))
    (tg_rd S 3 4 v2 fun y2 =>
      tg_nm (v1 + y2 : Int32) fun y3 =>
      tg_nm (v2 + 1 : Int32) fun y4 =>
      rec4 S y3 y4)
def L_X6_lengthOfAll_4 : Nat → tg_S → Int32 → Int32 → Option (tg_S × Int32)
  | 0 => fun _ _ _ => none
  | n + 1 => f_X6_lengthOfAll_4  (L_X6_lengthOfAll_4  n)
def f_X6_lengthOfAll (S : tg_S) : Option (tg_S × Int32) :=
  L_X6_lengthOfAll_4 tg_F S 0 0
-- X6_byteAt
def f_X6_byteAt (S : tg_S) (v1 : Int32) (v2 : Int32) : Option (tg_S × Int32) :=
  tg_rd S 2 124 ((v1 * 31) + v2) fun y1 =>
  some (S, y1)
-- X6_callOf
def f_X6_callOf (S : tg_S) (v0 : Int32) : Option (tg_S × Int32) :=
  tg_if (v0 = 104)
    (some (S, 2))
    (tg_if (v0 = 112)
        (some (S, 1))
        (tg_if (v0 = 114)
            (some (S, 0))
            (some (S, -1))))
-- X6_teamGoesOn
def f_X6_teamGoesOn (S : tg_S) (v0 : Int32) (v1 : Int32) : Option (tg_S × Int32) :=
  tg_if (v0 = 0)
    (tg_if (v1 = 104)
        (some (S, 1))
        (tg_if (v1 = 108)
            (some (S, 1))
            (tg_if (v1 = 97)
                (some (S, 1))
                (some (S, 0)))))
    (tg_if (v0 = 3)
        (tg_if (v1 = 59)
            (some (S, 1))
            (some (S, 0)))
        (tg_if (v1 < 49)
            (some (S, 0))
            (tg_if (57 < v1)
                (some (S, 0))
                (some (S, 1)))))
-- X6_firstFault
def f_X6_firstFault_79 (S : tg_S) (v2 : Int32) (s0 : Int32) : Option (tg_S × Int32) :=
  tg_if (s0 = 0)
    (some (S, v2))
    (some (S, -1))
def f_X6_firstFault_74 (S : tg_S) (v2 : Int32) : Option (tg_S × Int32) :=
  f_X6_firstFault_79 S v2 1
def f_X6_firstFault_52 (rec9 : tg_S → Int32 → Int32 → Int32 → Option (tg_S × Int32)) (S : tg_S) (v1 : Int32) (v2 : Int32) (v3 : Int32) : Option (tg_S × Int32) :=
  tg_nm (v3 + 1 : Int32) fun y1 =>
  rec9 S v1 v2 y1
def f_X6_firstFault_9 (rec9 : tg_S → Int32 → Int32 → Int32 → Option (tg_S × Int32)) (S : tg_S) (v1 : Int32) (v2 : Int32) (v3 : Int32) : Option (tg_S × Int32) :=
  tg_if (v2 ≤ v3)
    (tg_if (2 ≤ v1)
        (f_X6_firstFault_74 S v2)
        (tg_if (v2 = 0)
            (f_X6_firstFault_74 S v2)
            (tg_if ((v2 - v2 / 4 * 4) = 3)
                (f_X6_firstFault_74 S v2)
                (f_X6_firstFault_79 S v2 0))))
    (tg_bd (f_X6_byteAt S v1 v3) fun S5 r6 =>
      tg_if (2 ≤ v1)
        (tg_bd (f_X6_callOf S5 r6) fun S8 r9 =>
          tg_if (r9 = (-1))
            (some (S8, v3))
            (f_X6_firstFault_52 rec9 S8 v1 v2 v3))
        (tg_bd (f_X6_teamGoesOn S5 (v3 - v3 / 4 * 4) r6) fun S11 r12 =>
          tg_if (r12 = 0)
            (some (S11, v3))
            (f_X6_firstFault_52 rec9 S11 v1 v2 v3)))
def L_X6_firstFault_9 : Nat → tg_S → Int32 → Int32 → Int32 → Option (tg_S × Int32)
  | 0 => fun _ _ _ _ => none
  | n + 1 => f_X6_firstFault_9  (L_X6_firstFault_9  n)
def f_X6_firstFault (S : tg_S) (v1 : Int32) : Option (tg_S × Int32) :=
  tg_rd S 3 4 v1 fun y1 =>
  L_X6_firstFault_9 tg_F S v1 y1 0
-- X6_soundLength
def f_X6_soundLength (S : tg_S) (v1 : Int32) : Option (tg_S × Int32) :=
  tg_bd (f_X6_firstFault S v1) fun S1 r2 =>
  tg_if (r2 = (-1))
    (tg_rd S1 3 4 v1 fun y4 =>
      some (S1, y4))
    (some (S1, 0))
-- X6_sortOf
def f_X6_sortOf (S : tg_S) (v0 : Int32) : Option (tg_S × Int32) :=
  tg_if (v0 = 97)
    (some (S, 2))
    (tg_if (v0 = 104)
        (some (S, 0))
        (tg_if (v0 = 108)
            (some (S, 1))
            (some (S, -1))))
-- X1_takeCalls
def f_X1_takeCalls_53 (rec14 : tg_S → Int32 → Int32 → Int32 → Int32 → Option (tg_S)) (S : tg_S) (v2 : Int32) (v3 : Int32) (v4 : Int32) (v5 : Int32) (s0 : Int32) (s1 : Int32) : Option (tg_S) :=
  tg_wr S 18 48 s1 s0 fun S1 =>
  tg_nm (v5 + 1 : Int32) fun y2 =>
  rec14 S1 v2 v3 v4 y2
def f_X1_takeCalls_14 (rec14 : tg_S → Int32 → Int32 → Int32 → Int32 → Option (tg_S)) (S : tg_S) (v2 : Int32) (v3 : Int32) (v4 : Int32) (v5 : Int32) : Option (tg_S) :=
  tg_if (24 ≤ v5)
    (some S)
    (tg_if (v4 ≤ v5)
        (f_X1_takeCalls_53 rec14 S v2 v3 v4 v5 1 ((v2 * 24) + v5))
        (tg_bd (f_X6_byteAt S v3 v5) fun S3 r4 =>
          tg_bd (f_X6_callOf S3 r4) fun S5 r6 =>
          f_X1_takeCalls_53 rec14 S5 v2 v3 v4 v5 r6 ((v2 * 24) + v5)))
def L_X1_takeCalls_14 : Nat → tg_S → Int32 → Int32 → Int32 → Int32 → Option (tg_S)
  | 0 => fun _ _ _ _ _ => none
  | n + 1 => f_X1_takeCalls_14  (L_X1_takeCalls_14  n)
def f_X1_takeCalls (S : tg_S) (v2 : Int32) : Option (tg_S) :=
  tg_nm (2 + v2 : Int32) fun y1 =>
  tg_bd (f_X6_soundLength S y1) fun S2 r3 =>
  L_X1_takeCalls_14 tg_F S2 v2 y1 r3 0
-- X1_takeTeam
def f_X1_takeTeam_140 (rec36 : tg_S → Int32 → Int32 → Option (tg_S)) (S : tg_S) (v2 : Int32) (v3 : Int32) : Option (tg_S) :=
  tg_nm (v3 + 1 : Int32) fun y1 =>
  rec36 S v2 y1
def f_X1_takeTeam_71 (rec36 : tg_S → Int32 → Int32 → Option (tg_S)) (S : tg_S) (v2 : Int32) (v3 : Int32) (v4 : Int32) (s0 : Int32) (s1 : Int32) : Option (tg_S) :=
  tg_wz S 12 16 s1 s0 fun S1 =>
  tg_rd S1 12 16 v4 fun y2 =>
  tg_if (y2 = 0)
    (f_X1_takeTeam_140 rec36 S1 v2 v3)
    (tg_bd (f_X6_byteAt S1 v2 (4 * v3)) fun S4 r5 =>
      tg_bd (f_X6_sortOf S4 r5) fun S6 r7 =>
      tg_wr S6 13 16 v4 r7 fun S8 =>
      tg_bd (f_X6_byteAt S8 v2 ((4 * v3) + 1)) fun S9 r10 =>
      tg_wr S9 14 16 v4 (r10 - 48) fun S11 =>
      tg_bd (f_X6_byteAt S11 v2 ((4 * v3) + 2)) fun S12 r13 =>
      tg_wr S12 15 16 v4 (r13 - 48) fun S14 =>
      f_X1_takeTeam_140 rec36 S14 v2 v3)
def f_X1_takeTeam_36 (rec36 : tg_S → Int32 → Int32 → Option (tg_S)) (S : tg_S) (v2 : Int32) (v3 : Int32) : Option (tg_S) :=
  tg_if (8 ≤ v3)
    (some S)
    (tg_nm ((v2 * 8) + v3 : Int32) fun y2 =>
      tg_rd S 16 2 v2 fun y3 =>
      f_X1_takeTeam_71 rec36 S v2 v3 y2 (if y3 ≤ v3 then 0 else 1) y2)
def L_X1_takeTeam_36 : Nat → tg_S → Int32 → Int32 → Option (tg_S)
  | 0 => fun _ _ _ => none
  | n + 1 => f_X1_takeTeam_36  (L_X1_takeTeam_36  n)
def f_X1_takeTeam (S : tg_S) (v2 : Int32) : Option (tg_S) :=
  tg_bd (f_X6_soundLength S v2) fun S1 r2 =>
  tg_wr S1 16 2 v2 ((r2 + 1) / 4) fun S3 =>
  tg_rd S3 16 2 v2 fun y4 =>
  tg_wr S3 17 2 v2 (((v2 * 8) + y4) - 1) fun S5 =>
  L_X1_takeTeam_36 tg_F S5 v2 0
-- X1_takeTexts
def f_X1_takeTexts_2 (rec2 : tg_S → Int32 → Option (tg_S)) (S : tg_S) (v2 : Int32) : Option (tg_S) :=
  tg_if (2 ≤ v2)
    (some S)
    (tg_bv (f_X1_takeTeam S v2) fun S2 =>
      tg_bv (f_X1_takeCalls S2 v2) fun S3 =>
      tg_nm (v2 + 1 : Int32) fun y4 =>
      rec2 S3 y4)
def L_X1_takeTexts_2 : Nat → tg_S → Int32 → Option (tg_S)
  | 0 => fun _ _ => none
  | n + 1 => f_X1_takeTexts_2  (L_X1_takeTexts_2  n)
def f_X1_takeTexts (S : tg_S) : Option (tg_S) :=
  L_X1_takeTexts_2 tg_F S 0
-- X3_happens
def f_X3_happens (v : Nat) (S : tg_S) (v1 : Int32) (v2 : Int32) : Option (tg_S × Int32) :=
  tg_rd S (v + 2) 8 v1 fun y1 =>
  tg_if (y1 = v2)
    (tg_if ((((S v 4) >>> (v1 &&& 31)) &&& 1) = 0)
        (some (S, 1))
        (some (S, 0)))
    (some (S, 0))
-- X2_meetEvents
def f_X2_meetEvents_97 (c : Nat) (v : Nat) (rec12 : tg_S → Int32 → Int32 → Option (tg_S)) (S : tg_S) (v2 : Int32) (v3 : Int32) : Option (tg_S) :=
  tg_nm (v3 + 1 : Int32) fun y1 =>
  rec12 S v2 y1
def f_X2_meetEvents_12 (c : Nat) (v : Nat) (rec12 : tg_S → Int32 → Int32 → Option (tg_S)) (S : tg_S) (v2 : Int32) (v3 : Int32) : Option (tg_S) :=
  tg_if ((S v 3) ≤ v3)
    (some S)
    (tg_bd (f_X3_happens v S v3 v2) fun S2 r3 =>
      tg_if (r3 = 0)
        (f_X2_meetEvents_97 c v rec12 S2 v2 v3)
        (tg_rd S2 (v + 1) 8 v3 fun y5 =>
          tg_if (y5 = 0)
            (tg_rd S2 (v + 3) 8 v3 fun y11 =>
              tg_pf S2 c 10 ((S2 c 10) ||| (1 <<< (y11 &&& 31))) fun S12 =>
              f_X2_meetEvents_97 c v rec12 S12 v2 v3)
            (tg_if (y5 = 1)
                (tg_pf S2 c 9 (tg_min 9 ((S2 c 9) + 1)) fun S10 =>
                  f_X2_meetEvents_97 c v rec12 S10 v2 v3)
                (tg_if (y5 = 2)
                    (tg_pf S2 c 11 1 fun S9 =>
                      f_X2_meetEvents_97 c v rec12 S9 v2 v3)
                    (f_X2_meetEvents_97 c v rec12 S2 v2 v3)))))
def L_X2_meetEvents_12 (c : Nat) (v : Nat) : Nat → tg_S → Int32 → Int32 → Option (tg_S)
  | 0 => fun _ _ _ => none
  | n + 1 => f_X2_meetEvents_12 c v (L_X2_meetEvents_12 c v n)
def f_X2_meetEvents (c : Nat) (v : Nat) (S : tg_S) (v2 : Int32) : Option (tg_S) :=
  tg_pf S c 10 0 fun S1 =>
  tg_pf S1 c 11 0 fun S2 =>
  L_X2_meetEvents_12 c v tg_F S2 v2 0
-- X2_moveRope
def f_X2_moveRope (c : Nat) (S : tg_S) (v1 : Int32) (v2 : Int32) : Option (tg_S) :=
  tg_pf S c 8 ((S c 8) + (tg_max (-3) (tg_min 3 (v1 / 3)))) fun S1 =>
  tg_if ((S1 c 8) < 22)
    (tg_if (2 < (S1 c 8))
        (some S1)
        (tg_pf S1 c 5 1 fun S4 =>
          tg_pf S4 c 6 v2 fun S5 =>
          some S5))
    (tg_pf S1 c 5 0 fun S6 =>
      tg_pf S6 c 6 v2 fun S7 =>
      some S7)
-- X2_forceOf
def f_X2_forceOf_177 (c : Nat) (t : Nat) (S : tg_S) (v2 : Int32) (v5 : Int32) (s0 : Int32) : Option (tg_S × Int32) :=
  tg_rd S (t + 3) 16 v2 fun y1 =>
  tg_if (v5 = 0)
    (some (S, (s0 * y1) + 0))
    (some (S, (s0 * y1) + 2))
def f_X2_forceOf_165 (c : Nat) (t : Nat) (S : tg_S) (v2 : Int32) (v5 : Int32) (v7 : Int32) (s0 : Int32) (s1 : Int32) (s2 : Int32) : Option (tg_S × Int32) :=
  tg_wr S (c + 6) 16 s2 (s1 - s0) fun S1 =>
  f_X2_forceOf_177 c t S1 v2 v5 (if v7 = 0 then 1 else 2)
def f_X2_forceOf_145 (c : Nat) (t : Nat) (S : tg_S) (v2 : Int32) (v5 : Int32) (v6 : Int32) (s0 : Int32) : Option (tg_S × Int32) :=
  tg_rd S (c + 6) 16 v2 fun y1 =>
  f_X2_forceOf_165 c t S v2 v5 s0 (if s0 = 0 then 1 else v6) y1 v2
def f_X2_forceOf_144 (c : Nat) (t : Nat) (S : tg_S) (v2 : Int32) (v5 : Int32) (v6 : Int32) : Option (tg_S × Int32) :=
  f_X2_forceOf_145 c t S v2 v5 v6 0
def f_X2_forceOf_122 (c : Nat) (t : Nat) (S : tg_S) (v2 : Int32) (v3 : Int32) (v5 : Int32) (s0 : Int32) : Option (tg_S × Int32) :=
  tg_if (v3 = 2)
    (tg_rd S (c + 6) 16 v2 fun y2 =>
      tg_if (y2 < s0)
        (f_X2_forceOf_144 c t S v2 v5 s0)
        (f_X2_forceOf_145 c t S v2 v5 s0 1))
    (f_X2_forceOf_144 c t S v2 v5 s0)
def f_X2_forceOf_94 (c : Nat) (t : Nat) (S : tg_S) (s0 : Int32) (s1 : Int32) (s2 : Int32) (s3 : Int32) : Option (tg_S × Int32) :=
  tg_wr S (c + 6) 16 s3 (tg_min s2 (s1 + s0)) fun S1 =>
  some (S1, 0)
def f_X2_forceOf_62 (c : Nat) (t : Nat) (S : tg_S) (v2 : Int32) (v3 : Int32) (v4 : Int32) (v5 : Int32) : Option (tg_S × Int32) :=
  tg_if (v3 = 0)
    (tg_rd S (t + 4) 16 v2 fun y5 =>
      tg_rd S (c + 6) 16 v2 fun y6 =>
      f_X2_forceOf_94 c t S (if v4 = 1 then 2 else 1) y6 y5 v2)
    (tg_rd S (c + 6) 16 v2 fun y2 =>
      tg_if (y2 = 0)
        (some (S, 0))
        (f_X2_forceOf_122 c t S v2 v3 v5 (if v4 = 0 then 1 else 2)))
def f_X2_forceOf_44 (c : Nat) (t : Nat) (S : tg_S) (v2 : Int32) (v3 : Int32) (v4 : Int32) (s0 : Int32) : Option (tg_S × Int32) :=
  tg_if (v3 = 0)
    (tg_if (s0 = 0)
        (f_X2_forceOf_62 c t S v2 v3 v4 s0)
        (tg_rd S (t + 3) 16 v2 fun y3 =>
          some (S, y3)))
    (f_X2_forceOf_62 c t S v2 v3 v4 s0)
def f_X2_forceOf_43 (c : Nat) (t : Nat) (S : tg_S) (v2 : Int32) (v3 : Int32) (v4 : Int32) : Option (tg_S × Int32) :=
  f_X2_forceOf_44 c t S v2 v3 v4 0
def f_X2_forceOf_36 (c : Nat) (t : Nat) (S : tg_S) (v2 : Int32) (v3 : Int32) (v4 : Int32) (s0 : Int32) (s1 : Int32) : Option (tg_S × Int32) :=
  tg_if (s1 = s0)
    (f_X2_forceOf_44 c t S v2 v3 v4 1)
    (f_X2_forceOf_43 c t S v2 v3 v4)
def f_X2_forceOf (c : Nat) (t : Nat) (S : tg_S) (v2 : Int32) (v3 : Int32) : Option (tg_S × Int32) :=
  tg_rd S (t + 2) 16 v2 fun y1 =>
  tg_if (y1 = 2)
    (tg_if (8 ≤ v2)
        (tg_rd S (t + 6) 2 1 fun y4 =>
          f_X2_forceOf_36 c t S v2 v3 y1 y4 v2)
        (tg_rd S (t + 6) 2 0 fun y5 =>
          f_X2_forceOf_36 c t S v2 v3 y1 y5 v2))
    (f_X2_forceOf_43 c t S v2 v3 y1)
-- X2_pullOfTeam
def f_X2_pullOfTeam_172 (c : Nat) (t : Nat) (rec33 : tg_S → Int32 → Int32 → Int32 → Int32 → Int32 → Option (tg_S × Int32)) (S : tg_S) (v2 : Int32) (v3 : Int32) (v4 : Int32) (v5 : Int32) (v6 : Int32) : Option (tg_S × Int32) :=
  tg_nm (v6 + 1 : Int32) fun y1 =>
  rec33 S v2 v3 v4 v5 y1
def f_X2_pullOfTeam_113 (c : Nat) (t : Nat) (rec33 : tg_S → Int32 → Int32 → Int32 → Int32 → Int32 → Option (tg_S × Int32)) (S : tg_S) (v2 : Int32) (v3 : Int32) (v4 : Int32) (v5 : Int32) (v6 : Int32) (v8 : Int32) (s0 : Int32) : Option (tg_S × Int32) :=
  tg_wr S (c + 4) 384 ((v6 * 24) + v3) (tg_max 0 (v8 - s0)) fun S1 =>
  tg_rd S1 (c + 6) 16 v6 fun y2 =>
  tg_wr S1 (c + 5) 384 ((v6 * 24) + v3) y2 fun S3 =>
  tg_rd S3 (c + 4) 384 ((v6 * 24) + v3) fun y4 =>
  tg_nm (v5 + y4 : Int32) fun y5 =>
  f_X2_pullOfTeam_172 c t rec33 S3 v2 v3 v4 y5 v6
def f_X2_pullOfTeam_92 (c : Nat) (t : Nat) (rec33 : tg_S → Int32 → Int32 → Int32 → Int32 → Int32 → Option (tg_S × Int32)) (S : tg_S) (v2 : Int32) (v3 : Int32) (v4 : Int32) (v5 : Int32) (v6 : Int32) (s0 : Int32) : Option (tg_S × Int32) :=
  tg_rd S (t + 2) 16 v6 fun y1 =>
  f_X2_pullOfTeam_113 c t rec33 S v2 v3 v4 v5 v6 s0 (if y1 = 2 then 0 else (S c 9))
def f_X2_pullOfTeam_72 (c : Nat) (t : Nat) (rec33 : tg_S → Int32 → Int32 → Int32 → Int32 → Int32 → Option (tg_S × Int32)) (S : tg_S) (v2 : Int32) (v3 : Int32) (v4 : Int32) (v5 : Int32) (v6 : Int32) (s0 : Int32) : Option (tg_S × Int32) :=
  tg_if (s0 = 0)
    (tg_bd (f_X2_forceOf c t S v6 v4) fun S2 r3 =>
      f_X2_pullOfTeam_92 c t rec33 S2 v2 v3 v4 v5 v6 r3)
    (f_X2_pullOfTeam_92 c t rec33 S v2 v3 v4 v5 v6 0)
def f_X2_pullOfTeam_33 (c : Nat) (t : Nat) (rec33 : tg_S → Int32 → Int32 → Int32 → Int32 → Int32 → Option (tg_S × Int32)) (S : tg_S) (v2 : Int32) (v3 : Int32) (v4 : Int32) (v5 : Int32) (v6 : Int32) : Option (tg_S × Int32) :=
  tg_if (((v2 * 8) + 8) ≤ v6)
    (some (S, v5))
    (tg_rd S (t + 1) 16 v6 fun y2 =>
      tg_if (y2 = 0)
        (f_X2_pullOfTeam_172 c t rec33 S v2 v3 v4 v5 v6)
        (f_X2_pullOfTeam_72 c t rec33 S v2 v3 v4 v5 v6 (if (((S c 10) >>> (v6 &&& 31)) &&& 1) = 0 then 0 else 1)))
def L_X2_pullOfTeam_33 (c : Nat) (t : Nat) : Nat → tg_S → Int32 → Int32 → Int32 → Int32 → Int32 → Option (tg_S × Int32)
  | 0 => fun _ _ _ _ _ _ => none
  | n + 1 => f_X2_pullOfTeam_33 c t (L_X2_pullOfTeam_33 c t n)
def f_X2_pullOfTeam_22 (c : Nat) (t : Nat) (S : tg_S) (v2 : Int32) (v3 : Int32) (s0 : Int32) : Option (tg_S × Int32) :=
  tg_nm (v2 * 8 : Int32) fun y1 =>
  L_X2_pullOfTeam_33 c t tg_F S v2 v3 s0 0 y1
def f_X2_pullOfTeam (c : Nat) (t : Nat) (S : tg_S) (v2 : Int32) (v3 : Int32) : Option (tg_S × Int32) :=
  tg_if ((S c 11) = 0)
    (tg_rd S (t + 7) 48 ((v2 * 24) + v3) fun y2 =>
      f_X2_pullOfTeam_22 c t S v2 v3 y2)
    (f_X2_pullOfTeam_22 c t S v2 v3 0)
-- X2_standStill
def f_X2_standStill_2 (c : Nat) (rec2 : tg_S → Int32 → Int32 → Option (tg_S)) (S : tg_S) (v1 : Int32) (v2 : Int32) : Option (tg_S) :=
  tg_if (16 ≤ v2)
    (some S)
    (tg_wr S (c + 4) 384 ((v2 * 24) + v1) 0 fun S2 =>
      tg_rd S2 (c + 6) 16 v2 fun y3 =>
      tg_wr S2 (c + 5) 384 ((v2 * 24) + v1) y3 fun S4 =>
      tg_nm (v2 + 1 : Int32) fun y5 =>
      rec2 S4 v1 y5)
def L_X2_standStill_2 (c : Nat) : Nat → tg_S → Int32 → Int32 → Option (tg_S)
  | 0 => fun _ _ _ => none
  | n + 1 => f_X2_standStill_2 c (L_X2_standStill_2 c n)
def f_X2_standStill (c : Nat) (S : tg_S) (v1 : Int32) : Option (tg_S) :=
  L_X2_standStill_2 c tg_F S v1 0
-- X2_play
def f_X2_play_126 (c : Nat) (t : Nat) (rec41 : tg_S → Int32 → Option (tg_S × Int32)) (S : tg_S) (v2 : Int32) (v4 : Int32) (v5 : Int32) : Option (tg_S × Int32) :=
  tg_wr S (c + 1) 24 v2 (S c 8) fun S1 =>
  tg_wr S1 (c + 2) 24 v2 (S1 c 9) fun S2 =>
  tg_wr S2 (c + 3) 48 v2 v4 fun S3 =>
  tg_wr S3 (c + 3) 48 (24 + v2) v5 fun S4 =>
  tg_nm (v2 + 1 : Int32) fun y5 =>
  rec41 S4 y5
def f_X2_play_102 (c : Nat) (t : Nat) (rec41 : tg_S → Int32 → Option (tg_S × Int32)) (S : tg_S) (v2 : Int32) (v3 : Int32) (v4 : Int32) (s0 : Int32) : Option (tg_S × Int32) :=
  tg_if (v3 = 0)
    (tg_bv (f_X2_standStill c S v2) fun S2 =>
      f_X2_play_126 c t rec41 S2 v2 v4 s0)
    (tg_bv (f_X2_moveRope c S (v4 - s0) v2) fun S3 =>
      f_X2_play_126 c t rec41 S3 v2 v4 s0)
def f_X2_play_85 (c : Nat) (t : Nat) (rec41 : tg_S → Int32 → Option (tg_S × Int32)) (S : tg_S) (v2 : Int32) (v3 : Int32) (s0 : Int32) : Option (tg_S × Int32) :=
  tg_if (v3 = 0)
    (f_X2_play_102 c t rec41 S v2 v3 s0 0)
    (tg_bd (f_X2_pullOfTeam c t S 1 v2) fun S2 r3 =>
      f_X2_play_102 c t rec41 S2 v2 v3 s0 r3)
def f_X2_play_69 (c : Nat) (t : Nat) (rec41 : tg_S → Int32 → Option (tg_S × Int32)) (S : tg_S) (v2 : Int32) (s0 : Int32) : Option (tg_S × Int32) :=
  tg_if (s0 = 0)
    (f_X2_play_85 c t rec41 S v2 s0 0)
    (tg_bd (f_X2_pullOfTeam c t S 0 v2) fun S2 r3 =>
      f_X2_play_85 c t rec41 S2 v2 s0 r3)
def f_X2_play_41 (c : Nat) (t : Nat) (rec41 : tg_S → Int32 → Option (tg_S × Int32)) (S : tg_S) (v2 : Int32) : Option (tg_S × Int32) :=
  tg_if (24 ≤ v2)
    (some (S, S c 8))
    (tg_bv (f_X2_meetEvents c (t + 8) S v2) fun S2 =>
      f_X2_play_69 c t rec41 S2 v2 (if (S2 c 5) = (-1) then 1 else 0))
def L_X2_play_41 (c : Nat) (t : Nat) : Nat → tg_S → Int32 → Option (tg_S × Int32)
  | 0 => fun _ _ => none
  | n + 1 => f_X2_play_41 c t (L_X2_play_41 c t n)
def f_X2_play (c : Nat) (t : Nat) (S : tg_S) : Option (tg_S × Int32) :=
  tg_pf S c 5 (-1) fun S1 =>
  tg_pf S1 c 6 (-1) fun S2 =>
  tg_pf S2 c 8 12 fun S3 =>
  tg_pf S3 c 9 (S3 t 8) fun S4 =>
  tg_cp S4 (t + 4) (c + 6) 16 16 0 0 16 fun S5 =>
  L_X2_play_41 c t tg_F S5 0
-- X7_playTold
def f_X7_playTold (S : tg_S) : Option (tg_S) :=
  tg_bd (f_X2_play 35 11 S) fun S1 r2 =>
  tg_pf S1 0 11 0 fun S3 =>
  some S3
-- X7_playTexts
def f_X7_playTexts (S : tg_S) : Option (tg_S) :=
  tg_bv (f_X1_takeTexts S) fun S1 =>
  tg_bv (f_X7_playTold S1) fun S2 =>
  some S2
-- X7_type
def f_X7_type (S : tg_S) (v1 : Int32) (v2 : Int32) : Option (tg_S × Int32) :=
  tg_bd (f_X7_isBelow S v1 4) fun S1 r2 =>
  tg_if (r2 = 0)
    (some (S1, -2))
    (tg_bd (f_X7_isBelow S1 v2 256) fun S4 r5 =>
      tg_if (r5 = 0)
        (some (S4, -2))
        (tg_bd (f_X6_isFull S4 v1) fun S7 r8 =>
          tg_if (r8 = 0)
            (tg_bd (f_X6_append S7 v1 v2) fun S10 r11 =>
              tg_bv (f_X7_playTexts S10) fun S12 =>
              some (S12, r11))
            (some (S7, -4))))
-- X7_wipe
def f_X7_wipe (S : tg_S) (v1 : Int32) : Option (tg_S × Int32) :=
  tg_bd (f_X7_isBelow S v1 4) fun S1 r2 =>
  tg_if (r2 = 0)
    (some (S1, -2))
    (tg_bd (f_X6_clear S1 v1) fun S4 r5 =>
      tg_bv (f_X7_playTexts S4) fun S6 =>
      some (S6, r5))
-- X7_undo
def f_X7_undo (S : tg_S) (v1 : Int32) : Option (tg_S × Int32) :=
  tg_bd (f_X7_isBelow S v1 4) fun S1 r2 =>
  tg_if (r2 = 0)
    (some (S1, -2))
    (tg_bd (f_X6_length S1 v1) fun S4 r5 =>
      tg_if (r5 = 0)
        (some (S4, -3))
        (tg_bd (f_X6_cutLast S4 v1) fun S7 r8 =>
          tg_bv (f_X7_playTexts S7) fun S9 =>
          some (S9, r8)))
-- X7_fault
def f_X7_fault (S : tg_S) (v1 : Int32) : Option (tg_S × Int32) :=
  tg_bd (f_X7_isBelow S v1 4) fun S1 r2 =>
  tg_if (r2 = 0)
    (some (S1, -2))
    (tg_bd (f_X6_firstFault S1 v1) fun S4 r5 =>
      some (S4, r5))
-- X7_isPuller
def f_X7_isPuller (S : tg_S) (v1 : Int32) : Option (tg_S × Int32) :=
  tg_bd (f_X7_isBelow S v1 16) fun S1 r2 =>
  tg_if (r2 = 0)
    (some (S1, 0))
    (tg_rd S1 12 16 v1 fun y4 =>
      tg_if (y4 = 0)
        (some (S1, 0))
        (some (S1, 1)))
-- X7_puller
def f_X7_puller (S : tg_S) (v1 : Int32) (v2 : Int32) : Option (tg_S × Int32) :=
  tg_bd (f_X7_isPuller S v1) fun S1 r2 =>
  tg_if (r2 = 0)
    (some (S1, -2))
    (tg_bd (f_X7_isBelow S1 v2 3) fun S4 r5 =>
      tg_if (r5 = 0)
        (some (S4, -2))
        (tg_if (v2 = 0)
            (tg_rd S4 13 16 v1 fun y11 =>
              some (S4, y11))
            (tg_if (v2 = 1)
                (tg_rd S4 14 16 v1 fun y10 =>
                  some (S4, y10))
                (tg_rd S4 15 16 v1 fun y9 =>
                  some (S4, y9)))))
-- X7_call
def f_X7_call (S : tg_S) (v1 : Int32) (v2 : Int32) : Option (tg_S × Int32) :=
  tg_bd (f_X7_isBelow S v1 2) fun S1 r2 =>
  tg_if (r2 = 0)
    (some (S1, -2))
    (tg_bd (f_X7_isBelow S1 v2 24) fun S4 r5 =>
      tg_if (r5 = 0)
        (some (S4, -2))
        (tg_rd S4 18 48 ((v1 * 24) + v2) fun y7 =>
          some (S4, y7)))
-- X7_mud
def f_X7_mud (S : tg_S) (v1 : Int32) : Option (tg_S × Int32) :=
  tg_bd (f_X7_isBelow S v1 10) fun S1 r2 =>
  tg_if (r2 = 0)
    (some (S1, -2))
    (tg_nm (S1 11 8 : Int32) fun y4 =>
      tg_pf S1 11 8 v1 fun S5 =>
      tg_bv (f_X7_playTold S5) fun S6 =>
      some (S6, y4))
-- X3_append
def f_X3_append (S : tg_S) (v1 : Int32) (v2 : Int32) (v3 : Int32) : Option (tg_S × Int32) :=
  tg_wr S 20 8 (S 19 3) v1 fun S1 =>
  tg_wr S1 21 8 (S1 19 3) v2 fun S2 =>
  tg_wr S2 22 8 (S2 19 3) v3 fun S3 =>
  tg_pf S3 19 3 ((S3 19 3) + 1) fun S4 =>
  some (S4, S4 19 3)
-- X3_mayBe
def f_X3_mayBe (S : tg_S) (v0 : Int32) (v1 : Int32) (v2 : Int32) : Option (tg_S × Int32) :=
  tg_bd (f_X7_isBelow S v0 3) fun S1 r2 =>
  tg_if (r2 = 0)
    (some (S1, 0))
    (tg_bd (f_X7_isBelow S1 v1 24) fun S4 r5 =>
      tg_if (r5 = 0)
        (some (S4, 0))
        (tg_bd (f_X7_isBelow S4 v2 16) fun S7 r8 =>
          tg_if (r8 = 0)
            (some (S7, 0))
            (some (S7, 1))))
-- X7_event
def f_X7_event (S : tg_S) (v1 : Int32) (v2 : Int32) (v3 : Int32) : Option (tg_S × Int32) :=
  tg_bd (f_X3_mayBe S v1 v2 v3) fun S1 r2 =>
  tg_if (r2 = 0)
    (some (S1, -2))
    (tg_if ((S1 19 3) = 8)
        (some (S1, -4))
        (tg_bd (f_X3_append S1 v1 v2 v3) fun S5 r6 =>
          tg_bv (f_X7_playTold S5) fun S7 =>
          some (S7, r6)))
-- X3_cutLast
def f_X3_cutLast (S : tg_S) : Option (tg_S × Int32) :=
  tg_pf S 19 3 ((S 19 3) - 1) fun S1 =>
  some (S1, S1 19 3)
-- X7_back
def f_X7_back (S : tg_S) : Option (tg_S × Int32) :=
  tg_if ((S 19 3) = 0)
    (some (S, -3))
    (tg_bd (f_X3_cutLast S) fun S2 r3 =>
      tg_bv (f_X7_playTold S2) fun S4 =>
      some (S4, r3))
-- X7_found
def f_X7_found (S : tg_S) (v1 : Int32) : Option (tg_S × Int32) :=
  tg_pf S 0 3 v1 fun S1 =>
  some (S1, (-10) - v1)
-- X7_read
def f_X7_read_111 (rec35 : tg_S → Int32 → Int32 → Int32 → Int32 → Option (tg_S × Int32)) (S : tg_S) (v1 : Int32) (v3 : Int32) (v4 : Int32) (s0 : Int32) (s1 : Int32) : Option (tg_S × Int32) :=
  tg_nm (s1 + s0 : Int32) fun y1 =>
  tg_nm (v4 + 3 : Int32) fun y2 =>
  rec35 S v1 y1 v3 y2
def f_X7_read_100 (rec35 : tg_S → Int32 → Int32 → Int32 → Int32 → Option (tg_S × Int32)) (S : tg_S) (v1 : Int32) (v2 : Int32) (v4 : Int32) (s0 : Int32) : Option (tg_S × Int32) :=
  f_X7_read_111 rec35 S v1 s0 v4 (if s0 = 0 then 0 else 1) v2
def f_X7_read_35 (rec35 : tg_S → Int32 → Int32 → Int32 → Int32 → Option (tg_S × Int32)) (S : tg_S) (v1 : Int32) (v2 : Int32) (v3 : Int32) (v4 : Int32) : Option (tg_S × Int32) :=
  tg_if (v3 = 0)
    (some (S, v2))
    (tg_bd (f_X5_size S v1) fun S2 r3 =>
      tg_if (r3 < (v4 + 3))
        (some (S2, v2))
        (tg_bd (f_X5_item S2 v1 v4) fun S5 r6 =>
          tg_bd (f_X5_item S5 v1 (v4 + 1)) fun S7 r8 =>
          tg_bd (f_X5_item S7 v1 (v4 + 2)) fun S9 r10 =>
          tg_bd (f_X7_event S9 r6 r8 r10) fun S11 r12 =>
          f_X7_read_100 rec35 S11 v1 v2 v4 (if r12 ≤ 0 then 0 else 1)))
def L_X7_read_35 : Nat → tg_S → Int32 → Int32 → Int32 → Int32 → Option (tg_S × Int32)
  | 0 => fun _ _ _ _ _ => none
  | n + 1 => f_X7_read_35  (L_X7_read_35  n)
def f_X7_read (S : tg_S) (v1 : Int32) : Option (tg_S × Int32) :=
  tg_bd (f_X7_isBelow S v1 4) fun S1 r2 =>
  tg_if (r2 = 0)
    (some (S1, -2))
    (tg_bd (f_X5_isLost S1 v1) fun S4 r5 =>
      tg_if (r5 = 0)
        (L_X7_read_35 tg_F S4 v1 0 1 0)
        (tg_bd (f_X7_found S4 1) fun S7 r8 =>
          some (S7, r8)))
-- X7_rope
def f_X7_rope (S : tg_S) (v1 : Int32) (v2 : Int32) : Option (tg_S × Int32) :=
  tg_bd (f_X7_isBelow S v1 24) fun S1 r2 =>
  tg_if (r2 = 0)
    (some (S1, -2))
    (tg_bd (f_X7_isBelow S1 v2 4) fun S4 r5 =>
      tg_if (r5 = 0)
        (some (S4, -2))
        (tg_if (v2 = 0)
            (tg_rd S4 36 24 v1 fun y8 =>
              some (S4, y8))
            (tg_if (v2 = 1)
                (tg_rd S4 38 48 v1 fun y10 =>
                  some (S4, y10))
                (tg_if (v2 = 2)
                    (tg_rd S4 38 48 (24 + v1) fun y12 =>
                      some (S4, y12))
                    (tg_rd S4 37 24 v1 fun y13 =>
                      some (S4, y13))))))
-- X7_at
def f_X7_at (S : tg_S) (v1 : Int32) (v2 : Int32) (v3 : Int32) : Option (tg_S × Int32) :=
  tg_bd (f_X7_isBelow S v1 24) fun S1 r2 =>
  tg_if (r2 = 0)
    (some (S1, -2))
    (tg_bd (f_X7_isPuller S1 v2) fun S4 r5 =>
      tg_if (r5 = 0)
        (some (S4, -2))
        (tg_bd (f_X7_isBelow S4 v3 2) fun S7 r8 =>
          tg_if (r8 = 0)
            (some (S7, -2))
            (tg_nm ((v2 * 24) + v1 : Int32) fun y10 =>
              tg_if (v3 = 0)
                (tg_rd S7 39 384 y10 fun y13 =>
                  some (S7, y13))
                (tg_rd S7 40 384 y10 fun y12 =>
                  some (S7, y12)))))
-- X7_won
def f_X7_won (S : tg_S) (v1 : Int32) : Option (tg_S × Int32) :=
  tg_bd (f_X7_isBelow S v1 2) fun S1 r2 =>
  tg_if (r2 = 0)
    (some (S1, -2))
    (tg_if (v1 = 0)
        (some (S1, S1 35 5))
        (some (S1, S1 35 6)))
-- X7_furthest
def f_X7_furthest_52 (rec16 : tg_S → Int32 → Int32 → Int32 → Option (tg_S × Int32)) (S : tg_S) (v1 : Int32) (v3 : Int32) (s0 : Int32) : Option (tg_S × Int32) :=
  tg_nm (v3 + 1 : Int32) fun y1 =>
  rec16 S v1 s0 y1
def f_X7_furthest_16 (rec16 : tg_S → Int32 → Int32 → Int32 → Option (tg_S × Int32)) (S : tg_S) (v1 : Int32) (v2 : Int32) (v3 : Int32) : Option (tg_S × Int32) :=
  tg_if (24 ≤ v3)
    (some (S, v2))
    (tg_rd S 36 24 v3 fun y2 =>
      f_X7_furthest_52 rec16 S v1 v3 (if v1 = 0 then (tg_max v2 y2) else (tg_min v2 y2)))
def L_X7_furthest_16 : Nat → tg_S → Int32 → Int32 → Int32 → Option (tg_S × Int32)
  | 0 => fun _ _ _ _ => none
  | n + 1 => f_X7_furthest_16  (L_X7_furthest_16  n)
def f_X7_furthest (S : tg_S) (v1 : Int32) : Option (tg_S × Int32) :=
  tg_bd (f_X7_isBelow S v1 2) fun S1 r2 =>
  tg_if (r2 = 0)
    (some (S1, -2))
    (L_X7_furthest_16 tg_F S1 v1 12 0)
-- X7_pulledInAll
def f_X7_pulledInAll_4 (rec4 : tg_S → Int32 → Int32 → Int32 → Option (tg_S × Int32)) (S : tg_S) (v1 : Int32) (v2 : Int32) (v3 : Int32) : Option (tg_S × Int32) :=
  tg_if (24 ≤ v3)
    (some (S, v2))
    (tg_rd S 39 384 ((v1 * 24) + v3) fun y2 =>
      tg_nm (v2 + y2 : Int32) fun y3 =>
      tg_nm (v3 + 1 : Int32) fun y4 =>
      rec4 S v1 y3 y4)
def L_X7_pulledInAll_4 : Nat → tg_S → Int32 → Int32 → Int32 → Option (tg_S × Int32)
  | 0 => fun _ _ _ _ => none
  | n + 1 => f_X7_pulledInAll_4  (L_X7_pulledInAll_4  n)
def f_X7_pulledInAll (S : tg_S) (v1 : Int32) : Option (tg_S × Int32) :=
  L_X7_pulledInAll_4 tg_F S v1 0 0
-- X7_done
def f_X7_done (S : tg_S) (v1 : Int32) : Option (tg_S × Int32) :=
  tg_bd (f_X7_isPuller S v1) fun S1 r2 =>
  tg_if (r2 = 0)
    (some (S1, -2))
    (tg_bd (f_X7_pulledInAll S1 v1) fun S4 r5 =>
      some (S4, r5))
-- X7_spent
def f_X7_spent_48 (rec4 : tg_S → Int32 → Int32 → Option (tg_S × Int32)) (S : tg_S) (v1 : Int32) (v2 : Int32) : Option (tg_S × Int32) :=
  tg_nm (v2 + 1 : Int32) fun y1 =>
  rec4 S v1 y1
def f_X7_spent_4 (rec4 : tg_S → Int32 → Int32 → Option (tg_S × Int32)) (S : tg_S) (v1 : Int32) (v2 : Int32) : Option (tg_S × Int32) :=
  tg_if (16 ≤ v2)
    (some (S, v1))
    (tg_rd S 12 16 v2 fun y2 =>
      tg_if (y2 = 0)
        (f_X7_spent_48 rec4 S v1 v2)
        (tg_rd S 40 384 (((v2 * 24) + 24) - 1) fun y4 =>
          tg_if (y4 = 0)
            (tg_nm (v1 ||| (1 <<< (v2 &&& 31)) : Int32) fun y6 =>
              f_X7_spent_48 rec4 S y6 v2)
            (f_X7_spent_48 rec4 S v1 v2)))
def L_X7_spent_4 : Nat → tg_S → Int32 → Int32 → Option (tg_S × Int32)
  | 0 => fun _ _ _ => none
  | n + 1 => f_X7_spent_4  (L_X7_spent_4  n)
def f_X7_spent (S : tg_S) : Option (tg_S × Int32) :=
  L_X7_spent_4 tg_F S 0 0
-- X7_best
def f_X7_best_46 (rec6 : tg_S → Int32 → Int32 → Int32 → Option (tg_S × Int32)) (S : tg_S) (v1 : Int32) (v2 : Int32) (v3 : Int32) : Option (tg_S × Int32) :=
  tg_nm (v3 + 1 : Int32) fun y1 =>
  rec6 S v1 v2 y1
def f_X7_best_33 (rec6 : tg_S → Int32 → Int32 → Int32 → Option (tg_S × Int32)) (S : tg_S) (v1 : Int32) (v2 : Int32) (v3 : Int32) (s0 : Int32) : Option (tg_S × Int32) :=
  f_X7_best_46 rec6 S (if s0 ≤ v2 then v1 else v3) (if s0 ≤ v2 then v2 else s0) v3
def f_X7_best_6 (rec6 : tg_S → Int32 → Int32 → Int32 → Option (tg_S × Int32)) (S : tg_S) (v1 : Int32) (v2 : Int32) (v3 : Int32) : Option (tg_S × Int32) :=
  tg_if (16 ≤ v3)
    (some (S, v1))
    (tg_rd S 12 16 v3 fun y2 =>
      tg_if (y2 = 0)
        (f_X7_best_33 rec6 S v1 v2 v3 0)
        (tg_bd (f_X7_pulledInAll S v3) fun S4 r5 =>
          f_X7_best_33 rec6 S4 v1 v2 v3 r5))
def L_X7_best_6 : Nat → tg_S → Int32 → Int32 → Int32 → Option (tg_S × Int32)
  | 0 => fun _ _ _ _ => none
  | n + 1 => f_X7_best_6  (L_X7_best_6  n)
def f_X7_best (S : tg_S) : Option (tg_S × Int32) :=
  tg_nm (-1 : Int32) fun y1 =>
  L_X7_best_6 tg_F S y1 0 0
-- X7_level
def f_X7_level_66 (rec28 : tg_S → Int32 → Int32 → Int32 → Option (tg_S × Int32)) (S : tg_S) (v1 : Int32) (v2 : Int32) (v3 : Int32) : Option (tg_S × Int32) :=
  tg_nm (v3 + 1 : Int32) fun y1 =>
  rec28 S v1 v2 y1
def f_X7_level_28 (rec28 : tg_S → Int32 → Int32 → Int32 → Option (tg_S × Int32)) (S : tg_S) (v1 : Int32) (v2 : Int32) (v3 : Int32) : Option (tg_S × Int32) :=
  tg_if (24 ≤ v3)
    (some (S, v2))
    (tg_if (v1 < v3)
        (some (S, v2))
        (tg_rd S 38 48 v3 fun y3 =>
          tg_rd S 38 48 (24 + v3) fun y4 =>
          tg_if (y3 = y4)
            (tg_nm (v2 + 1 : Int32) fun y6 =>
              f_X7_level_66 rec28 S v1 y6 v3)
            (f_X7_level_66 rec28 S v1 v2 v3)))
def L_X7_level_28 : Nat → tg_S → Int32 → Int32 → Int32 → Option (tg_S × Int32)
  | 0 => fun _ _ _ _ => none
  | n + 1 => f_X7_level_28  (L_X7_level_28  n)
def f_X7_level_23 (S : tg_S) (s0 : Int32) : Option (tg_S × Int32) :=
  L_X7_level_28 tg_F S s0 0 0
def f_X7_level (S : tg_S) : Option (tg_S × Int32) :=
  f_X7_level_23 S (if (S 35 5) = (-1) then 23 else (S 35 6))
-- X3_takeFrom
def f_X3_takeFrom (S : tg_S) : Option (tg_S) :=
  tg_cp S 20 32 8 8 0 0 8 fun S1 =>
  tg_cp S1 21 33 8 8 0 0 8 fun S2 =>
  tg_cp S2 22 34 8 8 0 0 8 fun S3 =>
  tg_pf S3 31 3 (S3 19 3) fun S4 =>
  tg_pf S4 31 4 (S4 19 4) fun S5 =>
  some S5
-- X1_becomeLike
def f_X1_becomeLike_2 (rec2 : tg_S → Int32 → Option (tg_S)) (S : tg_S) (v2 : Int32) : Option (tg_S) :=
  tg_if (16 ≤ v2)
    (tg_cp S 16 28 2 2 0 0 2 fun S2 =>
      tg_cp S2 17 29 2 2 0 0 2 fun S3 =>
      tg_cp S3 18 30 48 48 0 0 48 fun S4 =>
      tg_bv (f_X3_takeFrom S4) fun S5 =>
      tg_pf S5 23 8 (S5 11 8) fun S6 =>
      some S6)
    (tg_rd S 12 16 v2 fun y7 =>
      tg_wz S 24 16 v2 y7 fun S8 =>
      tg_rd S8 13 16 v2 fun y9 =>
      tg_wr S8 25 16 v2 y9 fun S10 =>
      tg_rd S10 14 16 v2 fun y11 =>
      tg_wr S10 26 16 v2 y11 fun S12 =>
      tg_rd S12 15 16 v2 fun y13 =>
      tg_wr S12 27 16 v2 y13 fun S14 =>
      tg_nm (v2 + 1 : Int32) fun y15 =>
      rec2 S14 y15)
def L_X1_becomeLike_2 : Nat → tg_S → Int32 → Option (tg_S)
  | 0 => fun _ _ => none
  | n + 1 => f_X1_becomeLike_2  (L_X1_becomeLike_2  n)
def f_X1_becomeLike (S : tg_S) : Option (tg_S) :=
  L_X1_becomeLike_2 tg_F S 0
-- X7_better
def f_X7_better_50 (rec50 : tg_S → Int32 → Int32 → Int32 → Int32 → Option (tg_S × Int32)) (S : tg_S) (v1 : Int32) (v2 : Int32) (v3 : Int32) (v4 : Int32) : Option (tg_S × Int32) :=
  tg_if (3 ≤ v4)
    (tg_if (v3 = 0)
        (some (S, S 49 0))
        (some (S, S 49 2)))
    (tg_wr S 30 48 ((v1 * 24) + v2) v4 fun S3 =>
      tg_bd (f_X2_play 42 23 S3) fun S4 r5 =>
      tg_bv (f_X0_offer S4 v4 (-1) r5) fun S6 =>
      tg_nm (v4 + 1 : Int32) fun y7 =>
      rec50 S6 v1 v2 v3 y7)
def L_X7_better_50 : Nat → tg_S → Int32 → Int32 → Int32 → Int32 → Option (tg_S × Int32)
  | 0 => fun _ _ _ _ _ => none
  | n + 1 => f_X7_better_50  (L_X7_better_50  n)
def f_X7_better (S : tg_S) (v1 : Int32) (v2 : Int32) (v3 : Int32) : Option (tg_S × Int32) :=
  tg_bd (f_X7_isBelow S v1 2) fun S1 r2 =>
  tg_if (r2 = 0)
    (some (S1, -2))
    (tg_bd (f_X7_isBelow S1 v2 24) fun S4 r5 =>
      tg_if (r5 = 0)
        (some (S4, -2))
        (tg_bd (f_X7_isBelow S4 v3 2) fun S7 r8 =>
          tg_if (r8 = 0)
            (some (S7, -2))
            (tg_bv (f_X1_becomeLike S7) fun S10 =>
              tg_bv (f_X0_startFor S10 v1) fun S11 =>
              L_X7_better_50 tg_F S11 v1 v2 v3 0)))
-- X7_chooseSwap
def f_X7_chooseSwap_81 (rec39 : tg_S → Int32 → Int32 → Int32 → Option (tg_S)) (rec51 : tg_S → Int32 → Int32 → Int32 → Int32 → Option (tg_S)) (S : tg_S) (v1 : Int32) (v3 : Int32) (v4 : Int32) (v5 : Int32) (s0 : Int32) (s1 : Int32) : Option (tg_S) :=
  tg_wr S 29 2 s1 s0 fun S1 =>
  tg_bd (f_X2_play 42 23 S1) fun S2 r3 =>
  tg_bv (f_X0_offer S2 v4 v5 r3) fun S4 =>
  tg_nm (v5 + 1 : Int32) fun y5 =>
  rec51 S4 v1 v3 v4 y5
def f_X7_chooseSwap_51 (rec39 : tg_S → Int32 → Int32 → Int32 → Option (tg_S)) (rec51 : tg_S → Int32 → Int32 → Int32 → Int32 → Option (tg_S)) (S : tg_S) (v1 : Int32) (v3 : Int32) (v4 : Int32) (v5 : Int32) : Option (tg_S) :=
  tg_if (v3 ≤ v5)
    (tg_nm (v4 + 1 : Int32) fun y2 =>
      rec39 S v1 v3 y2)
    (f_X7_chooseSwap_81 rec39 rec51 S v1 v3 v4 v5 (if v5 = (v3 - 1) then v4 else (v3 - 1)) v1)
def L_X7_chooseSwap_51 (rec39 : tg_S → Int32 → Int32 → Int32 → Option (tg_S)) : Nat → tg_S → Int32 → Int32 → Int32 → Int32 → Option (tg_S)
  | 0 => fun _ _ _ _ _ => none
  | n + 1 => f_X7_chooseSwap_51 rec39 (L_X7_chooseSwap_51 rec39 n)
def f_X7_chooseSwap_39 (rec39 : tg_S → Int32 → Int32 → Int32 → Option (tg_S)) (S : tg_S) (v1 : Int32) (v3 : Int32) (v4 : Int32) : Option (tg_S) :=
  tg_if (v3 ≤ v4)
    (some S)
    (tg_nm (v4 + 1 : Int32) fun y2 =>
      L_X7_chooseSwap_51 rec39 tg_F S v1 v3 v4 y2)
def L_X7_chooseSwap_39 : Nat → tg_S → Int32 → Int32 → Int32 → Option (tg_S)
  | 0 => fun _ _ _ _ => none
  | n + 1 => f_X7_chooseSwap_39  (L_X7_chooseSwap_39  n)
def f_X7_chooseSwap (S : tg_S) (v1 : Int32) : Option (tg_S) :=
  tg_bv (f_X1_becomeLike S) fun S1 =>
  tg_bv (f_X0_startFor S1 v1) fun S2 =>
  tg_nm (v1 * 8 : Int32) fun y3 =>
  tg_rd S2 16 2 v1 fun y4 =>
  tg_nm (y3 + y4 : Int32) fun y5 =>
  L_X7_chooseSwap_39 tg_F S2 v1 y5 y3
-- X7_swap
def f_X7_swap (S : tg_S) (v1 : Int32) (v2 : Int32) : Option (tg_S × Int32) :=
  tg_bd (f_X7_isBelow S v1 2) fun S1 r2 =>
  tg_if (r2 = 0)
    (some (S1, -2))
    (tg_bd (f_X7_isBelow S1 v2 3) fun S4 r5 =>
      tg_if (r5 = 0)
        (some (S4, -2))
        (tg_bv (f_X7_chooseSwap S4 v1) fun S7 =>
          tg_if (v2 = 0)
            (some (S7, S7 49 0))
            (tg_if (v2 = 1)
                (some (S7, S7 49 1))
                (some (S7, S7 49 2)))))
-- X1_leaveOut
def f_X1_leaveOut (S : tg_S) (v1 : Int32) (v2 : Int32) : Option (tg_S) :=
  tg_wz S 24 16 v1 0 fun S1 =>
  tg_rd S1 29 2 v2 fun y2 =>
  tg_if (y2 = v1)
    (tg_wr S1 29 2 v2 (v1 - 1) fun S4 =>
      some S4)
    (some S1)
-- X7_chooseOut
def f_X7_chooseOut_28 (rec28 : tg_S → Int32 → Int32 → Int32 → Option (tg_S)) (S : tg_S) (v1 : Int32) (v3 : Int32) (v4 : Int32) : Option (tg_S) :=
  tg_if (v3 ≤ v4)
    (some S)
    (tg_bv (f_X1_becomeLike S) fun S2 =>
      tg_bv (f_X1_leaveOut S2 v4 v1) fun S3 =>
      tg_bd (f_X2_play 42 23 S3) fun S4 r5 =>
      tg_bv (f_X0_offer S4 v4 (-1) r5) fun S6 =>
      tg_nm (v4 + 1 : Int32) fun y7 =>
      rec28 S6 v1 v3 y7)
def L_X7_chooseOut_28 : Nat → tg_S → Int32 → Int32 → Int32 → Option (tg_S)
  | 0 => fun _ _ _ _ => none
  | n + 1 => f_X7_chooseOut_28  (L_X7_chooseOut_28  n)
def f_X7_chooseOut (S : tg_S) (v1 : Int32) : Option (tg_S) :=
  tg_bv (f_X0_startFor S v1) fun S1 =>
  tg_nm (v1 * 8 : Int32) fun y2 =>
  tg_rd S1 16 2 v1 fun y3 =>
  tg_nm (y2 + y3 : Int32) fun y4 =>
  L_X7_chooseOut_28 tg_F S1 v1 y4 y2
-- X7_out
def f_X7_out (S : tg_S) (v1 : Int32) (v2 : Int32) : Option (tg_S × Int32) :=
  tg_bd (f_X7_isBelow S v1 2) fun S1 r2 =>
  tg_if (r2 = 0)
    (some (S1, -2))
    (tg_bd (f_X7_isBelow S1 v2 2) fun S4 r5 =>
      tg_if (r5 = 0)
        (some (S4, -2))
        (tg_bv (f_X7_chooseOut S4 v1) fun S7 =>
          tg_if (v2 = 0)
            (some (S7, S7 49 0))
            (some (S7, S7 49 2))))
-- X7_winnerWithout
def f_X7_winnerWithout (S : tg_S) (v1 : Int32) : Option (tg_S × Int32) :=
  tg_pf S 31 4 v1 fun S1 =>
  tg_bd (f_X2_play 42 23 S1) fun S2 r3 =>
  some (S2, S2 42 5)
-- X7_chooseSpare
def f_X7_chooseSpare_88 (rec79 : tg_S → Int32 → Int32 → Option (tg_S × Int32)) (rec88 : tg_S → Int32 → Int32 → Int32 → Option (tg_S × Int32)) (S : tg_S) (v1 : Int32) (v2 : Int32) (v3 : Int32) : Option (tg_S × Int32) :=
  tg_if (v1 ≤ v3)
    (tg_nm (v2 + 1 : Int32) fun y2 =>
      rec79 S v1 y2)
    (tg_bd (f_X7_winnerWithout S ((1 <<< (v2 &&& 31)) ||| (1 <<< (v3 &&& 31)))) fun S3 r4 =>
      tg_if (r4 = 1)
        (tg_nm (v3 + 1 : Int32) fun y6 =>
          rec88 S3 v1 v2 y6)
        (tg_pf S3 49 0 v2 fun S7 =>
          tg_pf S7 49 1 v3 fun S8 =>
          some (S8, 2)))
def L_X7_chooseSpare_88 (rec79 : tg_S → Int32 → Int32 → Option (tg_S × Int32)) : Nat → tg_S → Int32 → Int32 → Int32 → Option (tg_S × Int32)
  | 0 => fun _ _ _ _ => none
  | n + 1 => f_X7_chooseSpare_88 rec79 (L_X7_chooseSpare_88 rec79 n)
def f_X7_chooseSpare_79 (rec79 : tg_S → Int32 → Int32 → Option (tg_S × Int32)) (S : tg_S) (v1 : Int32) (v2 : Int32) : Option (tg_S × Int32) :=
  tg_if (v1 ≤ v2)
    (some (S, -1))
    (tg_nm (v2 + 1 : Int32) fun y2 =>
      L_X7_chooseSpare_88 rec79 tg_F S v1 v2 y2)
def L_X7_chooseSpare_79 : Nat → tg_S → Int32 → Int32 → Option (tg_S × Int32)
  | 0 => fun _ _ _ => none
  | n + 1 => f_X7_chooseSpare_79  (L_X7_chooseSpare_79  n)
def f_X7_chooseSpare_45 (rec45 : tg_S → Int32 → Int32 → Option (tg_S × Int32)) (S : tg_S) (v1 : Int32) (v2 : Int32) : Option (tg_S × Int32) :=
  tg_if (v1 ≤ v2)
    (L_X7_chooseSpare_79 tg_F S v1 0)
    (tg_bd (f_X7_winnerWithout S (1 <<< (v2 &&& 31))) fun S2 r3 =>
      tg_if (r3 = 1)
        (tg_nm (v2 + 1 : Int32) fun y5 =>
          rec45 S2 v1 y5)
        (tg_pf S2 49 0 v2 fun S6 =>
          some (S6, 1)))
def L_X7_chooseSpare_45 : Nat → tg_S → Int32 → Int32 → Option (tg_S × Int32)
  | 0 => fun _ _ _ => none
  | n + 1 => f_X7_chooseSpare_45  (L_X7_chooseSpare_45  n)
def f_X7_chooseSpare (S : tg_S) : Option (tg_S × Int32) :=
  tg_bv (f_X0_startFor S 0) fun S1 =>
  tg_if ((S1 35 5) = 1)
    (tg_bv (f_X1_becomeLike S1) fun S3 =>
      tg_nm (S3 31 3 : Int32) fun y4 =>
      L_X7_chooseSpare_45 tg_F S3 y4 0)
    (some (S1, 0))
-- X7_spare
def f_X7_spare (S : tg_S) (v1 : Int32) : Option (tg_S × Int32) :=
  tg_if (v1 < (-1))
    (some (S, -2))
    (tg_if (v1 ≤ 1)
        (tg_bd (f_X7_chooseSpare S) fun S3 r4 =>
          tg_if (v1 = (-1))
            (some (S3, r4))
            (tg_if (v1 = 0)
                (some (S3, S3 49 0))
                (some (S3, S3 49 1))))
        (some (S, -2)))
-- X7_seen
def f_X7_seen (S : tg_S) (v1 : Int32) (v2 : Int32) : Option (tg_S × Int32) :=
  tg_bd (f_X7_isBelow S v1 24) fun S1 r2 =>
  tg_if (r2 = 0)
    (some (S1, -2))
    (tg_bd (f_X7_isBelow S1 v2 25) fun S4 r5 =>
      tg_if (r5 = 0)
        (some (S4, -2))
        (tg_if ((S4 4 2) = 8)
            (some (S4, -4))
            (tg_bd (f_X4_append S4 v1 v2) fun S8 r9 =>
              some (S8, r9))))
-- X7_forget
def f_X7_forget (S : tg_S) : Option (tg_S × Int32) :=
  tg_nm (S 4 2 : Int32) fun y1 =>
  tg_pf S 4 2 0 fun S2 =>
  some (S2, y1)
-- X7_never
def f_X7_never_74 (rec15 : tg_S → Int32 → Int32 → Option (tg_S × Int32)) (S : tg_S) (v1 : Int32) (v2 : Int32) : Option (tg_S × Int32) :=
  tg_nm (v2 + 1 : Int32) fun y1 =>
  rec15 S v1 y1
def f_X7_never_15 (rec15 : tg_S → Int32 → Int32 → Option (tg_S × Int32)) (S : tg_S) (v1 : Int32) (v2 : Int32) : Option (tg_S × Int32) :=
  tg_if ((S 31 3) ≤ v2)
    (some (S, v1))
    (tg_pf S 31 4 (1 <<< (v2 &&& 31)) fun S2 =>
      tg_bd (f_X2_play 42 23 S2) fun S3 r4 =>
      tg_bd (f_X4_fit S3) fun S5 r6 =>
      tg_if (r6 = 0)
        (f_X7_never_74 rec15 S5 v1 v2)
        (tg_nm (v1 ||| (1 <<< (v2 &&& 31)) : Int32) fun y8 =>
          f_X7_never_74 rec15 S5 y8 v2))
def L_X7_never_15 : Nat → tg_S → Int32 → Int32 → Option (tg_S × Int32)
  | 0 => fun _ _ _ => none
  | n + 1 => f_X7_never_15  (L_X7_never_15  n)
def f_X7_never (S : tg_S) : Option (tg_S × Int32) :=
  tg_bv (f_X1_becomeLike S) fun S1 =>
  L_X7_never_15 tg_F S1 0 0
-- X7_sortsThatFit
def f_X7_sortsThatFit_62 (rec15 : tg_S → Int32 → Int32 → Int32 → Option (tg_S × Int32)) (S : tg_S) (v1 : Int32) (v2 : Int32) (v3 : Int32) : Option (tg_S × Int32) :=
  tg_nm (v3 + 1 : Int32) fun y1 =>
  rec15 S v1 v2 y1
def f_X7_sortsThatFit_15 (rec15 : tg_S → Int32 → Int32 → Int32 → Option (tg_S × Int32)) (S : tg_S) (v1 : Int32) (v2 : Int32) (v3 : Int32) : Option (tg_S × Int32) :=
  tg_if (3 ≤ v3)
    (some (S, v2))
    (tg_wr S 25 16 v1 v3 fun S2 =>
      tg_bd (f_X2_play 42 23 S2) fun S3 r4 =>
      tg_bd (f_X4_fit S3) fun S5 r6 =>
      tg_if (r6 = 0)
        (f_X7_sortsThatFit_62 rec15 S5 v1 v2 v3)
        (tg_nm (v2 ||| (1 <<< (v3 &&& 31)) : Int32) fun y8 =>
          f_X7_sortsThatFit_62 rec15 S5 v1 y8 v3))
def L_X7_sortsThatFit_15 : Nat → tg_S → Int32 → Int32 → Int32 → Option (tg_S × Int32)
  | 0 => fun _ _ _ _ => none
  | n + 1 => f_X7_sortsThatFit_15  (L_X7_sortsThatFit_15  n)
def f_X7_sortsThatFit (S : tg_S) (v1 : Int32) : Option (tg_S × Int32) :=
  tg_bv (f_X1_becomeLike S) fun S1 =>
  L_X7_sortsThatFit_15 tg_F S1 v1 0 0
-- X7_weightsThatFit
def f_X7_weightsThatFit_101 (rec15 : tg_S → Int32 → Int32 → Int32 → Option (tg_S × Int32)) (S : tg_S) (v1 : Int32) (v2 : Int32) (v3 : Int32) : Option (tg_S × Int32) :=
  tg_nm (v3 + 1 : Int32) fun y1 =>
  rec15 S v1 v2 y1
def f_X7_weightsThatFit_46 (rec15 : tg_S → Int32 → Int32 → Int32 → Option (tg_S × Int32)) (rec46 : tg_S → Int32 → Int32 → Int32 → Int32 → Option (tg_S × Int32)) (S : tg_S) (v1 : Int32) (v2 : Int32) (v3 : Int32) (v4 : Int32) : Option (tg_S × Int32) :=
  tg_if (24 ≤ v4)
    (tg_bd (f_X4_fit S) fun S2 r3 =>
      tg_if (r3 = 0)
        (f_X7_weightsThatFit_101 rec15 S2 v1 v2 v3)
        (tg_nm (v2 ||| (1 <<< (v3 &&& 31)) : Int32) fun y5 =>
          f_X7_weightsThatFit_101 rec15 S2 v1 y5 v3))
    (tg_rd S 43 24 v4 fun y6 =>
      tg_wr S 50 240 ((v3 * 24) + v4) y6 fun S7 =>
      tg_nm (v4 + 1 : Int32) fun y8 =>
      rec46 S7 v1 v2 v3 y8)
def L_X7_weightsThatFit_46 (rec15 : tg_S → Int32 → Int32 → Int32 → Option (tg_S × Int32)) : Nat → tg_S → Int32 → Int32 → Int32 → Int32 → Option (tg_S × Int32)
  | 0 => fun _ _ _ _ _ => none
  | n + 1 => f_X7_weightsThatFit_46 rec15 (L_X7_weightsThatFit_46 rec15 n)
def f_X7_weightsThatFit_15 (rec15 : tg_S → Int32 → Int32 → Int32 → Option (tg_S × Int32)) (S : tg_S) (v1 : Int32) (v2 : Int32) (v3 : Int32) : Option (tg_S × Int32) :=
  tg_if (9 < v3)
    (some (S, v2))
    (tg_wr S 26 16 v1 v3 fun S2 =>
      tg_bd (f_X2_play 42 23 S2) fun S3 r4 =>
      L_X7_weightsThatFit_46 rec15 tg_F S3 v1 v2 v3 0)
def L_X7_weightsThatFit_15 : Nat → tg_S → Int32 → Int32 → Int32 → Option (tg_S × Int32)
  | 0 => fun _ _ _ _ => none
  | n + 1 => f_X7_weightsThatFit_15  (L_X7_weightsThatFit_15  n)
def f_X7_weightsThatFit (S : tg_S) (v1 : Int32) : Option (tg_S × Int32) :=
  tg_bv (f_X1_becomeLike S) fun S1 =>
  L_X7_weightsThatFit_15 tg_F S1 v1 0 1
-- X7_was
def f_X7_was (S : tg_S) (v1 : Int32) (v2 : Int32) : Option (tg_S × Int32) :=
  tg_bd (f_X7_isPuller S v1) fun S1 r2 =>
  tg_if (r2 = 0)
    (some (S1, -2))
    (tg_bd (f_X7_isBelow S1 v2 2) fun S4 r5 =>
      tg_if (r5 = 0)
        (some (S4, -2))
        (tg_if (v2 = 0)
            (tg_bd (f_X7_weightsThatFit S4 v1) fun S10 r11 =>
              some (S10, r11))
            (tg_bd (f_X7_sortsThatFit S4 v1) fun S8 r9 =>
              some (S8, r9))))
-- X7_greatestLikeness
def f_X7_greatestLikeness_81 (rec5 : tg_S → Int32 → Int32 → Int32 → Int32 → Option (tg_S × Int32)) (rec18 : tg_S → Int32 → Int32 → Int32 → Int32 → Int32 → Int32 → Option (tg_S × Int32)) (S : tg_S) (v1 : Int32) (v2 : Int32) (v3 : Int32) (v4 : Int32) (v5 : Int32) (v6 : Int32) : Option (tg_S × Int32) :=
  tg_nm (v6 + 1 : Int32) fun y1 =>
  rec18 S v1 v2 v3 v4 v5 y1
def f_X7_greatestLikeness_44 (rec5 : tg_S → Int32 → Int32 → Int32 → Int32 → Option (tg_S × Int32)) (rec18 : tg_S → Int32 → Int32 → Int32 → Int32 → Int32 → Int32 → Option (tg_S × Int32)) (S : tg_S) (v1 : Int32) (v2 : Int32) (v3 : Int32) (v4 : Int32) (v5 : Int32) (v6 : Int32) (s0 : Int32) : Option (tg_S × Int32) :=
  tg_if (s0 = 0)
    (f_X7_greatestLikeness_81 rec5 rec18 S v1 v2 v3 v4 v5 v6)
    (tg_rd S 50 240 ((v4 * 24) + v2) fun y2 =>
      tg_rd S 50 240 ((v6 * 24) + v2) fun y3 =>
      tg_if (y2 = y3)
        (tg_nm (v5 + 1 : Int32) fun y5 =>
          f_X7_greatestLikeness_81 rec5 rec18 S v1 v2 v3 v4 y5 v6)
        (f_X7_greatestLikeness_81 rec5 rec18 S v1 v2 v3 v4 v5 v6))
def f_X7_greatestLikeness_18 (rec5 : tg_S → Int32 → Int32 → Int32 → Int32 → Option (tg_S × Int32)) (rec18 : tg_S → Int32 → Int32 → Int32 → Int32 → Int32 → Int32 → Option (tg_S × Int32)) (S : tg_S) (v1 : Int32) (v2 : Int32) (v3 : Int32) (v4 : Int32) (v5 : Int32) (v6 : Int32) : Option (tg_S × Int32) :=
  tg_if (9 < v6)
    (tg_nm (tg_max v3 v5 : Int32) fun y2 =>
      tg_nm (v4 + 1 : Int32) fun y3 =>
      rec5 S v1 v2 y2 y3)
    (f_X7_greatestLikeness_44 rec5 rec18 S v1 v2 v3 v4 v5 v6 (if (((v1 >>> (v4 &&& 31)) &&& (v1 >>> (v6 &&& 31))) &&& 1) = 0 then 0 else 1))
def L_X7_greatestLikeness_18 (rec5 : tg_S → Int32 → Int32 → Int32 → Int32 → Option (tg_S × Int32)) : Nat → tg_S → Int32 → Int32 → Int32 → Int32 → Int32 → Int32 → Option (tg_S × Int32)
  | 0 => fun _ _ _ _ _ _ _ => none
  | n + 1 => f_X7_greatestLikeness_18 rec5 (L_X7_greatestLikeness_18 rec5 n)
def f_X7_greatestLikeness_5 (rec5 : tg_S → Int32 → Int32 → Int32 → Int32 → Option (tg_S × Int32)) (S : tg_S) (v1 : Int32) (v2 : Int32) (v3 : Int32) (v4 : Int32) : Option (tg_S × Int32) :=
  tg_if (9 < v4)
    (some (S, v3))
    (L_X7_greatestLikeness_18 rec5 tg_F S v1 v2 v3 v4 0 1)
def L_X7_greatestLikeness_5 : Nat → tg_S → Int32 → Int32 → Int32 → Int32 → Option (tg_S × Int32)
  | 0 => fun _ _ _ _ _ => none
  | n + 1 => f_X7_greatestLikeness_5  (L_X7_greatestLikeness_5  n)
def f_X7_greatestLikeness (S : tg_S) (v1 : Int32) (v2 : Int32) : Option (tg_S × Int32) :=
  L_X7_greatestLikeness_5 tg_F S v1 v2 0 1
-- X7_ask
def f_X7_ask_60 (rec30 : tg_S → Int32 → Int32 → Int32 → Int32 → Option (tg_S × Int32)) (S : tg_S) (v2 : Int32) (v3 : Int32) (v4 : Int32) (v5 : Int32) : Option (tg_S × Int32) :=
  tg_nm (v5 + 1 : Int32) fun y1 =>
  rec30 S v2 v3 v4 y1
def f_X7_ask_30 (rec30 : tg_S → Int32 → Int32 → Int32 → Int32 → Option (tg_S × Int32)) (S : tg_S) (v2 : Int32) (v3 : Int32) (v4 : Int32) (v5 : Int32) : Option (tg_S × Int32) :=
  tg_if (24 ≤ v5)
    (some (S, v3))
    (tg_bd (f_X7_greatestLikeness S v2 v5) fun S2 r3 =>
      f_X7_ask_60 rec30 S2 v2 (if v4 ≤ r3 then v3 else v5) (if v4 ≤ r3 then v4 else r3) v5)
def L_X7_ask_30 : Nat → tg_S → Int32 → Int32 → Int32 → Int32 → Option (tg_S × Int32)
  | 0 => fun _ _ _ _ _ => none
  | n + 1 => f_X7_ask_30  (L_X7_ask_30  n)
def f_X7_ask (S : tg_S) (v1 : Int32) : Option (tg_S × Int32) :=
  tg_bd (f_X7_isPuller S v1) fun S1 r2 =>
  tg_if (r2 = 0)
    (some (S1, -2))
    (tg_bd (f_X7_weightsThatFit S1 v1) fun S4 r5 =>
      tg_bd (f_X7_greatestLikeness S4 r5 0) fun S6 r7 =>
      L_X7_ask_30 tg_F S6 r5 0 r7 1)
-- X7_refreshWinners
def f_X7_refreshWinners_20 (rec20 : tg_S → Int32 → Option (tg_S)) (S : tg_S) (v1 : Int32) : Option (tg_S) :=
  tg_if ((1 <<< ((S 31 3) &&& 31)) ≤ v1)
    (tg_pf S 0 11 1 fun S2 =>
      some S2)
    (tg_pf S 31 4 v1 fun S3 =>
      tg_bd (f_X2_play 42 23 S3) fun S4 r5 =>
      tg_wr S4 51 256 v1 (S4 42 5) fun S6 =>
      tg_nm (v1 + 1 : Int32) fun y7 =>
      rec20 S6 y7)
def L_X7_refreshWinners_20 : Nat → tg_S → Int32 → Option (tg_S)
  | 0 => fun _ _ => none
  | n + 1 => f_X7_refreshWinners_20  (L_X7_refreshWinners_20  n)
def f_X7_refreshWinners (S : tg_S) : Option (tg_S) :=
  tg_if ((S 0 11) = 0)
    (tg_bv (f_X1_becomeLike S) fun S2 =>
      L_X7_refreshWinners_20 tg_F S2 0)
    (some S)
-- X7_waysToMiss
def f_X7_waysToMiss_40 (rec5 : tg_S → Int32 → Int32 → Int64 → Int32 → Option (tg_S × Int64)) (S : tg_S) (v1 : Int32) (v2 : Int32) (v5 : Int32) (s0 : Int64) (s1 : Int64) : Option (tg_S × Int64) :=
  tg_nm (s1 * s0 : Int64) fun y1 =>
  tg_nm (v5 + 1 : Int32) fun y2 =>
  rec5 S v1 v2 y1 y2
def f_X7_waysToMiss_5 (rec5 : tg_S → Int32 → Int32 → Int64 → Int32 → Option (tg_S × Int64)) (S : tg_S) (v1 : Int32) (v2 : Int32) (v3 : Int64) (v5 : Int32) : Option (tg_S × Int64) :=
  tg_if ((S 19 3) ≤ v5)
    (some (S, v3))
    (f_X7_waysToMiss_40 rec5 S v1 v2 v5 (if ((v2 >>> (v5 &&& 31)) &&& 1) = 0 then (v1.toInt64) else ((16 - v1).toInt64)) v3)
def L_X7_waysToMiss_5 : Nat → tg_S → Int32 → Int32 → Int64 → Int32 → Option (tg_S × Int64)
  | 0 => fun _ _ _ _ _ => none
  | n + 1 => f_X7_waysToMiss_5  (L_X7_waysToMiss_5  n)
def f_X7_waysToMiss (S : tg_S) (v1 : Int32) (v2 : Int32) : Option (tg_S × Int64) :=
  L_X7_waysToMiss_5 tg_F S v1 v2 1 0
-- X7_waysToWin
def f_X7_waysToWin_43 (rec5 : tg_S → Int32 → Int32 → Int64 → Int32 → Option (tg_S × Int64)) (S : tg_S) (v1 : Int32) (v2 : Int32) (v3 : Int64) (v5 : Int32) : Option (tg_S × Int64) :=
  tg_nm (v5 + 1 : Int32) fun y1 =>
  rec5 S v1 v2 v3 y1
def f_X7_waysToWin_5 (rec5 : tg_S → Int32 → Int32 → Int64 → Int32 → Option (tg_S × Int64)) (S : tg_S) (v1 : Int32) (v2 : Int32) (v3 : Int64) (v5 : Int32) : Option (tg_S × Int64) :=
  tg_if ((1 <<< ((S 19 3) &&& 31)) ≤ v5)
    (some (S, v3))
    (tg_rd S 51 256 v5 fun y2 =>
      tg_if (y2 = v2)
        (tg_bd (f_X7_waysToMiss S v1 v5) fun S4 r5 =>
          tg_nm (v3 + r5 : Int64) fun y6 =>
          f_X7_waysToWin_43 rec5 S4 v1 v2 y6 v5)
        (f_X7_waysToWin_43 rec5 S v1 v2 v3 v5))
def L_X7_waysToWin_5 : Nat → tg_S → Int32 → Int32 → Int64 → Int32 → Option (tg_S × Int64)
  | 0 => fun _ _ _ _ _ => none
  | n + 1 => f_X7_waysToWin_5  (L_X7_waysToWin_5  n)
def f_X7_waysToWin (S : tg_S) (v1 : Int32) (v2 : Int32) : Option (tg_S × Int64) :=
  L_X7_waysToWin_5 tg_F S v1 v2 0 0
-- X7_chance
def f_X7_chance_104 (S : tg_S) (v3 : Int32) (v5 : Int64) (v7 : Int64) : Option (tg_S × Int64) :=
  tg_if (v3 = 0)
    (some (S, v5))
    (some (S, v7))
def f_X7_chance_64 (rec64 : tg_S → Int32 → Int32 → Int64 → Int64 → Int32 → Option (tg_S × Int64)) (S : tg_S) (v3 : Int32) (v4 : Int32) (v5 : Int64) (v7 : Int64) (v9 : Int32) : Option (tg_S × Int64) :=
  tg_if (v4 ≤ v9)
    (f_X7_chance_104 S v3 v5 v7)
    (tg_if ((lg_cmp (v5 - v5 / 2 * 2) 0) = 0)
        (tg_nm (v5 / 2 : Int64) fun y3 =>
          tg_nm (v7 / 2 : Int64) fun y4 =>
          tg_nm (v9 + 1 : Int32) fun y5 =>
          rec64 S v3 v4 y3 y4 y5)
        (f_X7_chance_104 S v3 v5 v7))
def L_X7_chance_64 : Nat → tg_S → Int32 → Int32 → Int64 → Int64 → Int32 → Option (tg_S × Int64)
  | 0 => fun _ _ _ _ _ _ => none
  | n + 1 => f_X7_chance_64  (L_X7_chance_64  n)
def f_X7_chance (S : tg_S) (v1 : Int32) (v2 : Int32) (v3 : Int32) : Option (tg_S × Int64) :=
  tg_bd (f_X7_isBelow S v1 17) fun S1 r2 =>
  tg_if (r2 = 0)
    (some (S1, -9223372036854775806))
    (tg_bd (f_X7_isBelow S1 v2 2) fun S4 r5 =>
      tg_if (r5 = 0)
        (some (S4, -9223372036854775806))
        (tg_bd (f_X7_isBelow S4 v3 2) fun S7 r8 =>
          tg_if (r8 = 0)
            (some (S7, -9223372036854775806))
            (tg_bv (f_X7_refreshWinners S7) fun S10 =>
              tg_nm (4 * (S10 19 3) : Int32) fun y11 =>
              tg_bd (f_X7_waysToWin S10 v1 v2) fun S12 r13 =>
              tg_nm (1 <<< ((y11 : Int32).toInt64 &&& 63) : Int64) fun y14 =>
              L_X7_chance_64 tg_F S12 v3 y11 r13 y14 0)))
-- X7_years
def f_X7_years_84 (rec37 : tg_S → Int32 → Int32 → Int32 → Int32 → Option (tg_S × Int32)) (S : tg_S) (v2 : Int32) (v3 : Int32) (v4 : Int32) (v5 : Int32) (s0 : Int32) (s1 : Int32) : Option (tg_S × Int32) :=
  tg_wr S 30 48 s1 s0 fun S1 =>
  tg_nm (v5 + 1 : Int32) fun y2 =>
  rec37 S1 v2 v3 v4 y2
def f_X7_years_37 (rec37 : tg_S → Int32 → Int32 → Int32 → Int32 → Option (tg_S × Int32)) (S : tg_S) (v2 : Int32) (v3 : Int32) (v4 : Int32) (v5 : Int32) : Option (tg_S × Int32) :=
  tg_if (24 ≤ v5)
    (tg_bd (f_X2_play 42 23 S) fun S2 r3 =>
      tg_if (v3 = 0)
        (some (S2, r3))
        (some (S2, S2 42 5)))
    (tg_nm ((1103515245 * v4) + 12345 : Int32) fun y5 =>
      f_X7_years_84 rec37 S v2 v3 y5 v5 (if v2 ≤ v5 then 1 else ((((y5).toUInt32 >>> ((16 : Int32).toUInt32 &&& Int32.toUInt32 31)).toInt32) - (((y5).toUInt32 >>> ((16 : Int32).toUInt32 &&& Int32.toUInt32 31)).toInt32) / 3 * 3)) (24 + v5))
def L_X7_years_37 : Nat → tg_S → Int32 → Int32 → Int32 → Int32 → Option (tg_S × Int32)
  | 0 => fun _ _ _ _ _ => none
  | n + 1 => f_X7_years_37  (L_X7_years_37  n)
def f_X7_years (S : tg_S) (v1 : Int32) (v2 : Int32) (v3 : Int32) : Option (tg_S × Int32) :=
  tg_bd (f_X7_isBelow S v2 25) fun S1 r2 =>
  tg_if (r2 = 0)
    (some (S1, -2))
    (tg_bd (f_X7_isBelow S1 v3 2) fun S4 r5 =>
      tg_if (r5 = 0)
        (some (S4, -2))
        (tg_bv (f_X1_becomeLike S4) fun S7 =>
          L_X7_years_37 tg_F S7 v2 v3 v1 0))
-- X7_sheet
def f_X7_sheet (S : tg_S) (v1 : Int32) (v2 : Int32) (v3 : Int32) : Option (tg_S × Int32) :=
  tg_bd (f_X7_isBelow S v1 4) fun S1 r2 =>
  tg_if (r2 = 0)
    (some (S1, -2))
    (tg_bd (f_X7_isBelow S1 v2 3) fun S4 r5 =>
      tg_if (r5 = 0)
        (some (S4, -2))
        (tg_if (v3 ≤ 60)
            (tg_if (0 ≤ v3)
                (tg_bv (f_X5_renew S4 v1 v2 v3) fun S9 =>
                  some (S9, v3))
                (tg_bd (f_X7_found S4 5) fun S10 r11 =>
                  some (S10, r11)))
            (some (S4, -2))))
-- X7_lose
def f_X7_lose (S : tg_S) (v1 : Int32) : Option (tg_S × Int32) :=
  tg_bd (f_X7_isBelow S v1 4) fun S1 r2 =>
  tg_if (r2 = 0)
    (some (S1, -2))
    (tg_bd (f_X5_isLost S1 v1) fun S4 r5 =>
      tg_if (r5 = 0)
        (tg_bd (f_X5_drop S4 v1) fun S7 r8 =>
          some (S7, r8))
        (tg_bd (f_X7_found S4 1) fun S9 r10 =>
          some (S9, r10)))
-- X7_put
def f_X7_put (S : tg_S) (v1 : Int32) (v2 : Int32) (v3 : Int32) (v4 : Int32) : Option (tg_S × Int32) :=
  tg_bd (f_X7_isBelow S v1 4) fun S1 r2 =>
  tg_if (r2 = 0)
    (some (S1, -2))
    (tg_bd (f_X7_isBelow S1 v2 3) fun S4 r5 =>
      tg_if (r5 = 0)
        (some (S4, -2))
        (tg_bd (f_X5_whatIsWrong S4 v1 v2 v3) fun S7 r8 =>
          tg_if (r8 = 0)
            (tg_bv (f_X5_store S7 v1 v3 v4) fun S10 =>
              some (S10, 1))
            (tg_bd (f_X7_found S7 r8) fun S11 r12 =>
              some (S11, r12))))
-- X7_get
def f_X7_get (S : tg_S) (v1 : Int32) (v2 : Int32) (v3 : Int32) : Option (tg_S × Int32) :=
  tg_bd (f_X7_isBelow S v1 4) fun S1 r2 =>
  tg_if (r2 = 0)
    (some (S1, -2147483648))
    (tg_bd (f_X7_isBelow S1 v2 3) fun S4 r5 =>
      tg_if (r5 = 0)
        (some (S4, -2147483648))
        (tg_bd (f_X5_whatIsWrong S4 v1 v2 v3) fun S7 r8 =>
          tg_if (r8 = 0)
            (tg_bd (f_X5_item S7 v1 v3) fun S10 r11 =>
              some (S10, r11))
            (tg_bd (f_X7_found S7 r8) fun S12 r13 =>
              some (S12, -2147483648))))
-- X7_copy
def f_X7_copy_99 (S : tg_S) : Option (tg_S × Int32) :=
  tg_bd (f_X7_found S 2) fun S1 r2 =>
  some (S1, r2)
def f_X7_copy_41 (S : tg_S) : Option (tg_S × Int32) :=
  tg_bd (f_X7_found S 1) fun S1 r2 =>
  some (S1, r2)
def f_X7_copy (S : tg_S) (v1 : Int32) (v2 : Int32) (v3 : Int32) (v4 : Int32) (v5 : Int32) : Option (tg_S × Int32) :=
  tg_bd (f_X7_isBelow S v1 4) fun S1 r2 =>
  tg_if (r2 = 0)
    (some (S1, -2))
    (tg_bd (f_X7_isBelow S1 v3 4) fun S4 r5 =>
      tg_if (r5 = 0)
        (some (S4, -2))
        (tg_bd (f_X5_isLost S4 v1) fun S7 r8 =>
          tg_if (r8 = 0)
            (tg_bd (f_X5_isLost S7 v3) fun S10 r11 =>
              tg_if (r11 = 0)
                (tg_bd (f_X5_areAlike S10 v1 v3) fun S13 r14 =>
                  tg_if (r14 = 0)
                    (tg_bd (f_X7_found S13 4) fun S24 r25 =>
                      some (S24, r25))
                    (tg_if (v5 < 0)
                        (f_X7_copy_99 S13)
                        (tg_bd (f_X5_holds S13 v1 v2 v5) fun S17 r18 =>
                          tg_if (r18 = 0)
                            (f_X7_copy_99 S17)
                            (tg_bd (f_X5_holds S17 v3 v4 v5) fun S20 r21 =>
                              tg_if (r21 = 0)
                                (f_X7_copy_99 S20)
                                (tg_bv (f_X5_move S20 v1 v2 v3 v4 v5) fun S23 =>
                                  some (S23, 1))))))
                (f_X7_copy_41 S10))
            (f_X7_copy_41 S7)))
-- X7_write
def f_X7_write_44 (rec44 : tg_S → Int32 → Int32 → Int32 → Option (tg_S × Int32)) (S : tg_S) (v1 : Int32) (v2 : Int32) (v3 : Int32) : Option (tg_S × Int32) :=
  tg_if (v2 ≤ v3)
    (some (S, v2))
    (tg_rd S 36 24 v3 fun y2 =>
      tg_bv (f_X5_store S v1 v3 y2) fun S3 =>
      tg_nm (v3 + 1 : Int32) fun y4 =>
      rec44 S3 v1 v2 y4)
def L_X7_write_44 : Nat → tg_S → Int32 → Int32 → Int32 → Option (tg_S × Int32)
  | 0 => fun _ _ _ _ => none
  | n + 1 => f_X7_write_44  (L_X7_write_44  n)
def f_X7_write (S : tg_S) (v1 : Int32) : Option (tg_S × Int32) :=
  tg_bd (f_X7_isBelow S v1 4) fun S1 r2 =>
  tg_if (r2 = 0)
    (some (S1, -2))
    (tg_bd (f_X5_isLost S1 v1) fun S4 r5 =>
      tg_if (r5 = 0)
        (tg_bd (f_X5_size S4 v1) fun S7 r8 =>
          tg_nm (tg_min 24 r8 : Int32) fun y9 =>
          L_X7_write_44 tg_F S7 v1 y9 0)
        (tg_bd (f_X7_found S4 1) fun S10 r11 =>
          some (S10, r11)))
-- X7_count
def f_X7_count (S : tg_S) (v1 : Int32) : Option (tg_S × Int32) :=
  tg_if (v1 = 0)
    (tg_rd S 16 2 v1 fun y2 =>
      some (S, y2))
    (tg_if (v1 = 1)
        (tg_rd S 16 2 v1 fun y4 =>
          some (S, y4))
        (tg_if (v1 = 2)
            (tg_bd (f_X6_soundLength S v1) fun S6 r7 =>
              some (S6, r7))
            (tg_if (v1 = 3)
                (tg_bd (f_X6_soundLength S v1) fun S9 r10 =>
                  some (S9, r10))
                (tg_if (v1 = 4)
                    (tg_bd (f_X6_lengthOfAll S) fun S12 r13 =>
                      some (S12, r13))
                    (tg_if (v1 = 5)
                        (some (S, S 19 3))
                        (tg_if (v1 = 6)
                            (tg_rd S 36 24 23 fun y16 =>
                              some (S, y16))
                            (tg_if (v1 = 7)
                                (some (S, S 4 2))
                                (tg_if (v1 = 8)
                                    (some (S, S 0 3))
                                    (some (S, -2))))))))))
-- X7_withBeat
def f_X7_withBeat_38 (rec38 : tg_S → Int32 → Int64 → Int32 → Option (tg_S × Int64)) (S : tg_S) (v3 : Int32) (v4 : Int64) (v6 : Int32) : Option (tg_S × Int64) :=
  tg_if (4 ≤ v6)
    (some (S, v4))
    (tg_bd (f_X7_rope S v3 v6) fun S2 r3 =>
      tg_nm ((31 * v4) + (r3.toInt64) : Int64) fun y4 =>
      tg_nm (v6 + 1 : Int32) fun y5 =>
      rec38 S2 v3 y4 y5)
def L_X7_withBeat_38 : Nat → tg_S → Int32 → Int64 → Int32 → Option (tg_S × Int64)
  | 0 => fun _ _ _ _ => none
  | n + 1 => f_X7_withBeat_38  (L_X7_withBeat_38  n)
def f_X7_withBeat (S : tg_S) (v1 : Int64) (v3 : Int32) : Option (tg_S × Int64) :=
  tg_bd (f_X7_call S 0 v3) fun S1 r2 =>
  tg_nm ((31 * v1) + (r2.toInt64) : Int64) fun y3 =>
  tg_bd (f_X7_call S1 1 v3) fun S4 r5 =>
  tg_nm ((31 * y3) + (r5.toInt64) : Int64) fun y6 =>
  L_X7_withBeat_38 tg_F S4 v3 y6 0
-- X7_withPuller
def f_X7_withPuller_48 (rec48 : tg_S → Int32 → Int64 → Int32 → Int32 → Option (tg_S × Int64)) (S : tg_S) (v3 : Int32) (v4 : Int64) (v7 : Int32) (v8 : Int32) : Option (tg_S × Int64) :=
  tg_if (v7 ≤ v8)
    (tg_bd (f_X7_done S v3) fun S2 r3 =>
      tg_nm ((31 * v4) + (r3.toInt64) : Int64) fun y4 =>
      tg_bd (f_X7_was S2 v3 0) fun S5 r6 =>
      tg_nm ((31 * y4) + (r6.toInt64) : Int64) fun y7 =>
      tg_bd (f_X7_was S5 v3 1) fun S8 r9 =>
      tg_nm ((31 * y7) + (r9.toInt64) : Int64) fun y10 =>
      tg_bd (f_X7_ask S8 v3) fun S11 r12 =>
      some (S11, (31 * y10) + (r12.toInt64)))
    (tg_rs v8 fun y13 =>
      tg_bd (f_X7_at S y13 v3 0) fun S14 r15 =>
      tg_nm ((31 * v4) + (r15.toInt64) : Int64) fun y16 =>
      tg_bd (f_X7_at S14 y13 v3 1) fun S17 r18 =>
      tg_nm ((31 * y16) + (r18.toInt64) : Int64) fun y19 =>
      tg_nm (v8 + 1 : Int32) fun y20 =>
      rec48 S17 v3 y19 v7 y20)
def L_X7_withPuller_48 : Nat → tg_S → Int32 → Int64 → Int32 → Int32 → Option (tg_S × Int64)
  | 0 => fun _ _ _ _ _ => none
  | n + 1 => f_X7_withPuller_48  (L_X7_withPuller_48  n)
def f_X7_withPuller_6 (rec6 : tg_S → Int32 → Int64 → Int32 → Option (tg_S × Int64)) (S : tg_S) (v3 : Int32) (v4 : Int64) (v6 : Int32) : Option (tg_S × Int64) :=
  tg_if (3 ≤ v6)
    (L_X7_withPuller_48 tg_F S v3 v4 4 0)
    (tg_bd (f_X7_puller S v3 v6) fun S2 r3 =>
      tg_nm ((31 * v4) + (r3.toInt64) : Int64) fun y4 =>
      tg_nm (v6 + 1 : Int32) fun y5 =>
      rec6 S2 v3 y4 y5)
def L_X7_withPuller_6 : Nat → tg_S → Int32 → Int64 → Int32 → Option (tg_S × Int64)
  | 0 => fun _ _ _ _ => none
  | n + 1 => f_X7_withPuller_6  (L_X7_withPuller_6  n)
def f_X7_withPuller (S : tg_S) (v1 : Int64) (v3 : Int32) : Option (tg_S × Int64) :=
  L_X7_withPuller_6 tg_F S v3 v1 0
-- X7_withTeam
def f_X7_withTeam_40 (rec40 : tg_S → Int32 → Int64 → Int32 → Option (tg_S × Int64)) (S : tg_S) (v3 : Int32) (v4 : Int64) (v6 : Int32) : Option (tg_S × Int64) :=
  tg_if (3 ≤ v6)
    (tg_bd (f_X7_out S v3 0) fun S2 r3 =>
      tg_nm ((31 * v4) + (r3.toInt64) : Int64) fun y4 =>
      tg_bd (f_X7_out S2 v3 1) fun S5 r6 =>
      tg_nm ((31 * y4) + (r6.toInt64) : Int64) fun y7 =>
      tg_bd (f_X7_chance S5 5 v3 0) fun S8 r9 =>
      tg_nm ((31 * y7) + r9 : Int64) fun y10 =>
      tg_bd (f_X7_chance S8 5 v3 1) fun S11 r12 =>
      some (S11, (31 * y10) + r12))
    (tg_bd (f_X7_swap S v3 v6) fun S13 r14 =>
      tg_nm ((31 * v4) + (r14.toInt64) : Int64) fun y15 =>
      tg_nm (v6 + 1 : Int32) fun y16 =>
      rec40 S13 v3 y15 y16)
def L_X7_withTeam_40 : Nat → tg_S → Int32 → Int64 → Int32 → Option (tg_S × Int64)
  | 0 => fun _ _ _ _ => none
  | n + 1 => f_X7_withTeam_40  (L_X7_withTeam_40  n)
def f_X7_withTeam (S : tg_S) (v1 : Int64) (v3 : Int32) : Option (tg_S × Int64) :=
  tg_bd (f_X7_better S v3 4 0) fun S1 r2 =>
  tg_nm ((31 * v1) + (r2.toInt64) : Int64) fun y3 =>
  tg_bd (f_X7_better S1 v3 4 1) fun S4 r5 =>
  tg_nm ((31 * y3) + (r5.toInt64) : Int64) fun y6 =>
  L_X7_withTeam_40 tg_F S4 v3 y6 0
-- X7_digest
def f_X7_digest_109 (rec109 : tg_S → Int64 → Int32 → Option (tg_S × Int64)) (S : tg_S) (v1 : Int64) (v3 : Int32) : Option (tg_S × Int64) :=
  tg_if (2 ≤ v3)
    (tg_bd (f_X7_won S 0) fun S2 r3 =>
      tg_nm ((31 * v1) + (r3.toInt64) : Int64) fun y4 =>
      tg_bd (f_X7_won S2 1) fun S5 r6 =>
      tg_nm ((31 * y4) + (r6.toInt64) : Int64) fun y7 =>
      tg_bd (f_X7_furthest S5 0) fun S8 r9 =>
      tg_nm ((31 * y7) + (r9.toInt64) : Int64) fun y10 =>
      tg_bd (f_X7_furthest S8 1) fun S11 r12 =>
      tg_nm ((31 * y10) + (r12.toInt64) : Int64) fun y13 =>
      tg_bd (f_X7_spent S11) fun S14 r15 =>
      tg_nm ((31 * y13) + (r15.toInt64) : Int64) fun y16 =>
      tg_bd (f_X7_best S14) fun S17 r18 =>
      tg_nm ((31 * y16) + (r18.toInt64) : Int64) fun y19 =>
      tg_bd (f_X7_level S17) fun S20 r21 =>
      tg_nm ((31 * y19) + (r21.toInt64) : Int64) fun y22 =>
      tg_bd (f_X7_spare S20 (-1)) fun S23 r24 =>
      tg_nm ((31 * y22) + (r24.toInt64) : Int64) fun y25 =>
      tg_bd (f_X7_spare S23 0) fun S26 r27 =>
      tg_nm ((31 * y25) + (r27.toInt64) : Int64) fun y28 =>
      tg_bd (f_X7_never S26) fun S29 r30 =>
      tg_nm ((31 * y28) + (r30.toInt64) : Int64) fun y31 =>
      tg_bd (f_X7_years S29 7 18 0) fun S32 r33 =>
      tg_nm ((31 * y31) + (r33.toInt64) : Int64) fun y34 =>
      tg_bd (f_X7_years S32 7 18 1) fun S35 r36 =>
      some (S35, (31 * y34) + (r36.toInt64)))
    (tg_bd (f_X7_withTeam S v1 v3) fun S37 r38 =>
      tg_nm (v3 + 1 : Int32) fun y39 =>
      rec109 S37 r38 y39)
def L_X7_digest_109 : Nat → tg_S → Int64 → Int32 → Option (tg_S × Int64)
  | 0 => fun _ _ _ => none
  | n + 1 => f_X7_digest_109  (L_X7_digest_109  n)
def f_X7_digest_101 (rec80 : tg_S → Int64 → Int32 → Option (tg_S × Int64)) (S : tg_S) (v1 : Int64) (v3 : Int32) : Option (tg_S × Int64) :=
  tg_nm (v3 + 1 : Int32) fun y1 =>
  rec80 S v1 y1
def f_X7_digest_80 (rec80 : tg_S → Int64 → Int32 → Option (tg_S × Int64)) (S : tg_S) (v1 : Int64) (v3 : Int32) : Option (tg_S × Int64) :=
  tg_if (16 ≤ v3)
    (L_X7_digest_109 tg_F S v1 0)
    (tg_bd (f_X7_isPuller S v3) fun S2 r3 =>
      tg_if (r3 = 0)
        (f_X7_digest_101 rec80 S2 v1 v3)
        (tg_bd (f_X7_withPuller S2 v1 v3) fun S5 r6 =>
          f_X7_digest_101 rec80 S5 r6 v3))
def L_X7_digest_80 : Nat → tg_S → Int64 → Int32 → Option (tg_S × Int64)
  | 0 => fun _ _ _ => none
  | n + 1 => f_X7_digest_80  (L_X7_digest_80  n)
def f_X7_digest_59 (rec59 : tg_S → Int64 → Int32 → Option (tg_S × Int64)) (S : tg_S) (v1 : Int64) (v3 : Int32) : Option (tg_S × Int64) :=
  tg_if (24 ≤ v3)
    (L_X7_digest_80 tg_F S v1 0)
    (tg_bd (f_X7_withBeat S v1 v3) fun S2 r3 =>
      tg_nm (v3 + 1 : Int32) fun y4 =>
      rec59 S2 r3 y4)
def L_X7_digest_59 : Nat → tg_S → Int64 → Int32 → Option (tg_S × Int64)
  | 0 => fun _ _ _ => none
  | n + 1 => f_X7_digest_59  (L_X7_digest_59  n)
def f_X7_digest_33 (rec33 : tg_S → Int64 → Int32 → Option (tg_S × Int64)) (S : tg_S) (v1 : Int64) (v3 : Int32) : Option (tg_S × Int64) :=
  tg_if (4 ≤ v3)
    (L_X7_digest_59 tg_F S v1 0)
    (tg_bd (f_X7_fault S v3) fun S2 r3 =>
      tg_nm ((31 * v1) + (r3.toInt64) : Int64) fun y4 =>
      tg_nm (v3 + 1 : Int32) fun y5 =>
      rec33 S2 y4 y5)
def L_X7_digest_33 : Nat → tg_S → Int64 → Int32 → Option (tg_S × Int64)
  | 0 => fun _ _ _ => none
  | n + 1 => f_X7_digest_33  (L_X7_digest_33  n)
def f_X7_digest_6 (rec6 : tg_S → Int64 → Int32 → Option (tg_S × Int64)) (S : tg_S) (v1 : Int64) (v3 : Int32) : Option (tg_S × Int64) :=
  tg_if (8 ≤ v3)
    (L_X7_digest_33 tg_F S v1 0)
    (tg_bd (f_X7_count S v3) fun S2 r3 =>
      tg_nm ((31 * v1) + (r3.toInt64) : Int64) fun y4 =>
      tg_nm (v3 + 1 : Int32) fun y5 =>
      rec6 S2 y4 y5)
def L_X7_digest_6 : Nat → tg_S → Int64 → Int32 → Option (tg_S × Int64)
  | 0 => fun _ _ _ => none
  | n + 1 => f_X7_digest_6  (L_X7_digest_6  n)
def f_X7_digest (S : tg_S) : Option (tg_S × Int64) :=
  L_X7_digest_6 tg_F S 17 0
-- X8_in
def f_X8_in (S : tg_S) (v0 : Int32) (v1 : Int32) (v2 : Int32) : Option (tg_S × Int32) :=
  tg_if (v0 < v1)
    (some (S, 0))
    (tg_if (v2 < v0)
        (some (S, 0))
        (some (S, 1)))
-- X8_isIn
def f_X8_isIn (S : tg_S) (v0 : Int32) (v1 : Int32) : Option (tg_S × Int32) :=
  tg_if (((v0 >>> (v1 &&& 31)) &&& 1) = 1)
    (some (S, 1))
    (some (S, 0))
-- X8_no
def f_X8_no (S : tg_S) (v0 : Int32) : Option (tg_S × Int64) :=
  some (S, (-9223372036854775808) - (v0.toInt64))
-- X8_lowest
def f_X8_lowest_6 (rec6 : tg_S → Int64 → Int64 → Int32 → Int64 → Int64 → Option (tg_S × Int64)) (S : tg_S) (v0 : Int64) (v2 : Int64) (v4 : Int32) (v5 : Int64) (v7 : Int64) : Option (tg_S × Int64) :=
  tg_if ((lg_cmp v7 0) = 0)
    (tg_if (v4 = 0)
        (tg_ck (decide (¬ v5 = 0)) <|
          some (S, v0 / v5))
        (tg_ck (decide (¬ v5 = 0)) <|
          some (S, v2 / v5)))
    (tg_ck (decide (¬ v7 = 0)) <|
      tg_nm (v5 - v5 / v7 * v7 : Int64) fun y5 =>
      rec6 S v0 v2 v4 v7 y5)
def L_X8_lowest_6 : Nat → tg_S → Int64 → Int64 → Int32 → Int64 → Int64 → Option (tg_S × Int64)
  | 0 => fun _ _ _ _ _ _ => none
  | n + 1 => f_X8_lowest_6  (L_X8_lowest_6  n)
def f_X8_lowest (S : tg_S) (v0 : Int64) (v2 : Int64) (v4 : Int32) : Option (tg_S × Int64) :=
  L_X8_lowest_6 tg_F S v0 v2 v4 v0 v2
-- X8_isText
def f_X8_isText (S : tg_S) (v0 : Int32) : Option (tg_S × Int32) :=
  tg_bd (f_X8_in S v0 0 3) fun S1 r2 =>
  tg_bz r2 (some (S1, r2))
-- X8_isBeat
def f_X8_isBeat (S : tg_S) (v0 : Int32) : Option (tg_S × Int32) :=
  tg_bd (f_X8_in S v0 0 23) fun S1 r2 =>
  tg_bz r2 (some (S1, r2))
-- X8_isTwo
def f_X8_isTwo (S : tg_S) (v0 : Int32) : Option (tg_S × Int32) :=
  tg_bd (f_X8_in S v0 0 1) fun S1 r2 =>
  tg_bz r2 (some (S1, r2))
-- X8_isThree
def f_X8_isThree (S : tg_S) (v0 : Int32) : Option (tg_S × Int32) :=
  tg_bd (f_X8_in S v0 0 2) fun S1 r2 =>
  tg_bz r2 (some (S1, r2))
-- X8_type
def f_X8_type_39 (S : tg_S) (v1 : Int32) (v2 : Int32) (s0 : Int32) (s1 : Int32) : Option (tg_S × Int32) :=
  tg_if (s1 = s0)
    (some (S, -4))
    (tg_rd S 1 4 v1 fun y2 =>
      tg_wr S 2 124 ((31 * v1) + y2) v2 fun S3 =>
      tg_rd S3 1 4 v1 fun y4 =>
      tg_wr S3 1 4 v1 (y4 + 1) fun S5 =>
      tg_rd S5 1 4 v1 fun y6 =>
      some (S5, y6))
def f_X8_type (S : tg_S) (v1 : Int32) (v2 : Int32) : Option (tg_S × Int32) :=
  tg_bd (f_X8_isText S v1) fun S1 r2 =>
  tg_if (r2 = 0)
    (some (S1, -2))
    (tg_bd (f_X8_in S1 v2 0 255) fun S4 r5 =>
      tg_if (r5 = 0)
        (some (S4, -2))
        (tg_rd S4 1 4 v1 fun y7 =>
          f_X8_type_39 S4 v1 v2 (if 2 ≤ v1 then 24 else 31) y7))
-- X8_wipe
def f_X8_wipe (S : tg_S) (v1 : Int32) : Option (tg_S × Int32) :=
  tg_bd (f_X8_isText S v1) fun S1 r2 =>
  tg_if (r2 = 0)
    (some (S1, -2))
    (tg_rd S1 1 4 v1 fun y4 =>
      tg_wr S1 1 4 v1 0 fun S5 =>
      some (S5, y4))
-- X8_undo
def f_X8_undo (S : tg_S) (v1 : Int32) : Option (tg_S × Int32) :=
  tg_bd (f_X8_isText S v1) fun S1 r2 =>
  tg_if (r2 = 0)
    (some (S1, -2))
    (tg_rd S1 1 4 v1 fun y4 =>
      tg_if (y4 = 0)
        (some (S1, -3))
        (tg_rd S1 1 4 v1 fun y6 =>
          tg_wr S1 1 4 v1 (y6 - 1) fun S7 =>
          tg_rd S7 1 4 v1 fun y8 =>
          some (S7, y8)))
-- X8_byteAt
def f_X8_byteAt (S : tg_S) (v1 : Int32) (v2 : Int32) : Option (tg_S × Int32) :=
  tg_rd S 1 4 v1 fun y1 =>
  tg_if (y1 ≤ v2)
    (some (S, -1))
    (tg_rd S 2 124 ((31 * v1) + v2) fun y3 =>
      some (S, y3))
-- X8_readsPuller
def f_X8_readsPuller_42 (S : tg_S) (v1 : Int32) (v2 : Int32) (v3 : Int32) (s0 : Int32) : Option (tg_S × Int32) :=
  tg_bd (f_X8_byteAt S v1 (v3 + 1)) fun S1 r2 =>
  tg_nm (r2 - 48 : Int32) fun y3 =>
  tg_bd (f_X8_byteAt S1 v1 (v3 + 2)) fun S4 r5 =>
  tg_nm (r5 - 48 : Int32) fun y6 =>
  tg_if (v2 = 8)
    (some (S4, 0))
    (tg_if (s0 = (-1))
        (some (S4, 0))
        (tg_bd (f_X8_in S4 y3 1 9) fun S9 r10 =>
          tg_if (r10 = 0)
            (some (S9, 1))
            (tg_bd (f_X8_in S9 y6 1 9) fun S12 r13 =>
              tg_if (r13 = 0)
                (some (S12, 2))
                (tg_wr S12 4 17 ((8 * v1) + v2) s0 fun S15 =>
                  tg_wr S15 5 17 ((8 * v1) + v2) y3 fun S16 =>
                  tg_wr S16 6 17 ((8 * v1) + v2) y6 fun S17 =>
                  some (S17, 3)))))
def f_X8_readsPuller (S : tg_S) (v1 : Int32) (v2 : Int32) (v3 : Int32) : Option (tg_S × Int32) :=
  tg_bd (f_X8_byteAt S v1 v3) fun S1 r2 =>
  f_X8_readsPuller_42 S1 v1 v2 v3 (if r2 = 104 then 0 else (if r2 = 108 then 1 else (if r2 = 97 then 2 else (-1))))
-- X8_readsTeam
def f_X8_readsTeam_25 (rec11 : tg_S → Int32 → Int32 → Int32 → Option (tg_S × Int32)) (S : tg_S) (v1 : Int32) (v2 : Int32) (v3 : Int32) : Option (tg_S × Int32) :=
  tg_bd (f_X8_readsPuller S v1 v2 v3) fun S1 r2 =>
  tg_if (3 ≤ r2)
    (tg_nm (v2 + 1 : Int32) fun y4 =>
      tg_nm (v3 + 3 : Int32) fun y5 =>
      tg_rd S1 1 4 v1 fun y6 =>
      tg_if (y5 = y6)
        (tg_wr S1 3 2 v1 y4 fun S12 =>
          some (S12, -1))
        (tg_bd (f_X8_byteAt S1 v1 y5) fun S8 r9 =>
          tg_if (r9 = 59)
            (tg_nm (y5 + 1 : Int32) fun y11 =>
              rec11 S8 v1 y4 y11)
            (some (S8, y5))))
    (some (S1, v3 + r2))
def f_X8_readsTeam_11 (rec11 : tg_S → Int32 → Int32 → Int32 → Option (tg_S × Int32)) (S : tg_S) (v1 : Int32) (v2 : Int32) (v3 : Int32) : Option (tg_S × Int32) :=
  tg_rd S 1 4 v1 fun y1 =>
  tg_if (v3 < y1)
    (f_X8_readsTeam_25 rec11 S v1 v2 v3)
    (tg_if (v3 ≤ 0)
        (some (S, -1))
        (f_X8_readsTeam_25 rec11 S v1 v2 v3))
def L_X8_readsTeam_11 : Nat → tg_S → Int32 → Int32 → Int32 → Option (tg_S × Int32)
  | 0 => fun _ _ _ _ => none
  | n + 1 => f_X8_readsTeam_11  (L_X8_readsTeam_11  n)
def f_X8_readsTeam (S : tg_S) (v1 : Int32) : Option (tg_S × Int32) :=
  tg_wr S 3 2 v1 0 fun S1 =>
  L_X8_readsTeam_11 tg_F S1 v1 0 0
-- X8_callBy
def f_X8_callBy (S : tg_S) (v0 : Int32) : Option (tg_S × Int32) :=
  tg_if (v0 = 114)
    (some (S, 0))
    (tg_if (v0 = 112)
        (some (S, 1))
        (tg_if (v0 = 104)
            (some (S, 2))
            (some (S, -1))))
-- X8_readsCalls
def f_X8_readsCalls_72 (rec72 : tg_S → Int32 → Int32 → Int32 → Option (tg_S × Int32)) (S : tg_S) (v1 : Int32) (v2 : Int32) (v3 : Int32) : Option (tg_S × Int32) :=
  tg_rd S 1 4 v2 fun y1 =>
  tg_if (y1 ≤ v3)
    (tg_rd S 1 4 v2 fun y3 =>
      tg_wr S 7 2 v1 y3 fun S4 =>
      some (S4, -1))
    (tg_bd (f_X8_byteAt S v2 v3) fun S5 r6 =>
      tg_bd (f_X8_callBy S5 r6) fun S7 r8 =>
      tg_wr S7 8 48 ((24 * v1) + v3) r8 fun S9 =>
      tg_nm (v3 + 1 : Int32) fun y10 =>
      rec72 S9 v1 v2 y10)
def L_X8_readsCalls_72 : Nat → tg_S → Int32 → Int32 → Int32 → Option (tg_S × Int32)
  | 0 => fun _ _ _ _ => none
  | n + 1 => f_X8_readsCalls_72  (L_X8_readsCalls_72  n)
def f_X8_readsCalls_39 (rec39 : tg_S → Int32 → Int32 → Int32 → Option (tg_S × Int32)) (S : tg_S) (v1 : Int32) (v2 : Int32) (v3 : Int32) : Option (tg_S × Int32) :=
  tg_rd S 1 4 v2 fun y1 =>
  tg_if (y1 ≤ v3)
    (L_X8_readsCalls_72 tg_F S v1 v2 0)
    (tg_bd (f_X8_byteAt S v2 v3) fun S3 r4 =>
      tg_bd (f_X8_callBy S3 r4) fun S5 r6 =>
      tg_if (r6 = (-1))
        (some (S5, v3))
        (tg_nm (v3 + 1 : Int32) fun y8 =>
          rec39 S5 v1 v2 y8))
def L_X8_readsCalls_39 : Nat → tg_S → Int32 → Int32 → Int32 → Option (tg_S × Int32)
  | 0 => fun _ _ _ _ => none
  | n + 1 => f_X8_readsCalls_39  (L_X8_readsCalls_39  n)
def f_X8_readsCalls_13 (rec13 : tg_S → Int32 → Int32 → Int32 → Option (tg_S × Int32)) (S : tg_S) (v1 : Int32) (v2 : Int32) (v3 : Int32) : Option (tg_S × Int32) :=
  tg_if (24 ≤ v3)
    (L_X8_readsCalls_39 tg_F S v1 v2 0)
    (tg_wr S 8 48 ((24 * v1) + v3) 1 fun S2 =>
      tg_nm (v3 + 1 : Int32) fun y3 =>
      rec13 S2 v1 v2 y3)
def L_X8_readsCalls_13 : Nat → tg_S → Int32 → Int32 → Int32 → Option (tg_S × Int32)
  | 0 => fun _ _ _ _ => none
  | n + 1 => f_X8_readsCalls_13  (L_X8_readsCalls_13  n)
def f_X8_readsCalls (S : tg_S) (v1 : Int32) : Option (tg_S × Int32) :=
  tg_nm (v1 + 2 : Int32) fun y1 =>
  tg_wr S 7 2 v1 0 fun S2 =>
  L_X8_readsCalls_13 tg_F S2 v1 y1 0
-- X8_faultOf
def f_X8_faultOf (S : tg_S) (v1 : Int32) : Option (tg_S × Int32) :=
  tg_bd (f_X8_readsTeam S 0) fun S1 r2 =>
  tg_bd (f_X8_readsTeam S1 1) fun S3 r4 =>
  tg_bd (f_X8_readsCalls S3 0) fun S5 r6 =>
  tg_bd (f_X8_readsCalls S5 1) fun S7 r8 =>
  tg_if (v1 = 0)
    (some (S7, r2))
    (tg_if (v1 = 1)
        (some (S7, r4))
        (tg_if (v1 = 2)
            (some (S7, r6))
            (some (S7, r8))))
-- X8_reads
def f_X8_reads (S : tg_S) : Option (tg_S) :=
  tg_bd (f_X8_faultOf S 0) fun S1 r2 =>
  some S1
-- X8_fault
def f_X8_fault (S : tg_S) (v1 : Int32) : Option (tg_S × Int32) :=
  tg_bd (f_X8_isText S v1) fun S1 r2 =>
  tg_if (r2 = 0)
    (some (S1, -2))
    (tg_bd (f_X8_faultOf S1 v1) fun S4 r5 =>
      some (S4, r5))
-- X8_isThereOne
def f_X8_isThereOne (S : tg_S) (v1 : Int32) : Option (tg_S × Int32) :=
  tg_bd (f_X8_in S v1 0 15) fun S1 r2 =>
  tg_if (r2 = 0)
    (some (S1, 0))
    (tg_rd S1 3 2 (v1 / 8) fun y4 =>
      tg_if (y4 ≤ (v1 - v1 / 8 * 8))
        (some (S1, 0))
        (some (S1, 1)))
-- X8_isPuller
def f_X8_isPuller (S : tg_S) (v1 : Int32) : Option (tg_S × Int32) :=
  tg_bv (f_X8_reads S) fun S1 =>
  tg_bd (f_X8_isThereOne S1 v1) fun S2 r3 =>
  tg_bz r3 (some (S2, r3))
-- X8_pullerOf
def f_X8_pullerOf (S : tg_S) (v1 : Int32) (v2 : Int32) : Option (tg_S × Int32) :=
  tg_if (v2 = 0)
    (tg_rd S 4 17 v1 fun y5 =>
      some (S, y5))
    (tg_if (v2 = 1)
        (tg_rd S 5 17 v1 fun y4 =>
          some (S, y4))
        (tg_rd S 6 17 v1 fun y3 =>
          some (S, y3)))
-- X8_puller
def f_X8_puller (S : tg_S) (v1 : Int32) (v2 : Int32) : Option (tg_S × Int32) :=
  tg_bd (f_X8_isPuller S v1) fun S1 r2 =>
  tg_if (r2 = 0)
    (some (S1, -2))
    (tg_bd (f_X8_isThree S1 v2) fun S4 r5 =>
      tg_if (r5 = 0)
        (some (S4, -2))
        (tg_bd (f_X8_pullerOf S4 v1 v2) fun S7 r8 =>
          some (S7, r8)))
-- X8_callOf
def f_X8_callOf (S : tg_S) (v1 : Int32) (v2 : Int32) : Option (tg_S × Int32) :=
  tg_bv (f_X8_reads S) fun S1 =>
  tg_rd S1 8 48 ((24 * v1) + v2) fun y2 =>
  some (S1, y2)
-- X8_call
def f_X8_call (S : tg_S) (v1 : Int32) (v2 : Int32) : Option (tg_S × Int32) :=
  tg_bd (f_X8_isTwo S v1) fun S1 r2 =>
  tg_if (r2 = 0)
    (some (S1, -2))
    (tg_bd (f_X8_isBeat S1 v2) fun S4 r5 =>
      tg_if (r5 = 0)
        (some (S4, -2))
        (tg_bd (f_X8_callOf S4 v1 v2) fun S7 r8 =>
          some (S7, r8)))
-- X8_mud
def f_X8_mud (S : tg_S) (v1 : Int32) : Option (tg_S × Int32) :=
  tg_bd (f_X8_in S v1 0 9) fun S1 r2 =>
  tg_if (r2 = 0)
    (some (S1, -2))
    (tg_nm (S1 0 8 : Int32) fun y4 =>
      tg_pf S1 0 8 v1 fun S5 =>
      some (S5, y4))
-- X8_event
def f_X8_event (S : tg_S) (v1 : Int32) (v2 : Int32) (v3 : Int32) : Option (tg_S × Int32) :=
  tg_bd (f_X8_isThree S v1) fun S1 r2 =>
  tg_if (r2 = 0)
    (some (S1, -2))
    (tg_bd (f_X8_isBeat S1 v2) fun S4 r5 =>
      tg_if (r5 = 0)
        (some (S4, -2))
        (tg_bd (f_X8_in S4 v3 0 15) fun S7 r8 =>
          tg_if (r8 = 0)
            (some (S7, -2))
            (tg_if ((S7 0 9) = 8)
                (some (S7, -4))
                (tg_wr S7 9 8 (S7 0 9) v1 fun S11 =>
                  tg_wr S11 10 8 (S11 0 9) v2 fun S12 =>
                  tg_wr S12 11 8 (S12 0 9) v3 fun S13 =>
                  tg_pf S13 0 9 ((S13 0 9) + 1) fun S14 =>
                  some (S14, S14 0 9)))))
-- X8_back
def f_X8_back (S : tg_S) : Option (tg_S × Int32) :=
  tg_if ((S 0 9) = 0)
    (some (S, -3))
    (tg_pf S 0 9 ((S 0 9) - 1) fun S2 =>
      some (S2, S2 0 9))
-- X8_isSheet
def f_X8_isSheet (S : tg_S) (v0 : Int32) : Option (tg_S × Int32) :=
  tg_bd (f_X8_in S v0 0 3) fun S1 r2 =>
  tg_bz r2 (some (S1, r2))
-- X8_meets
def f_X8_meets (S : tg_S) (v1 : Int32) : Option (tg_S × Int32) :=
  tg_pf S 0 46 v1 fun S1 =>
  some (S1, (-10) - v1)
-- X8_read
def f_X8_read_32 (rec32 : tg_S → Int32 → Int32 → Int32 → Option (tg_S × Int32)) (S : tg_S) (v1 : Int32) (v2 : Int32) (v3 : Int32) : Option (tg_S × Int32) :=
  tg_rd S 30 4 v1 fun y1 =>
  tg_if (y1 ≤ ((3 * v2) + 2))
    (some (S, v2))
    (tg_rd S 31 240 (v3 + (3 * v2)) fun y3 =>
      tg_rd S 31 240 ((v3 + (3 * v2)) + 1) fun y4 =>
      tg_rd S 31 240 ((v3 + (3 * v2)) + 2) fun y5 =>
      tg_bd (f_X8_event S y3 y4 y5) fun S6 r7 =>
      tg_if (r7 ≤ 0)
        (some (S6, v2))
        (tg_nm (v2 + 1 : Int32) fun y9 =>
          rec32 S6 v1 y9 v3))
def L_X8_read_32 : Nat → tg_S → Int32 → Int32 → Int32 → Option (tg_S × Int32)
  | 0 => fun _ _ _ _ => none
  | n + 1 => f_X8_read_32  (L_X8_read_32  n)
def f_X8_read (S : tg_S) (v1 : Int32) : Option (tg_S × Int32) :=
  tg_bd (f_X8_isSheet S v1) fun S1 r2 =>
  tg_if (r2 = 0)
    (some (S1, -2))
    (tg_rd S1 28 4 v1 fun y4 =>
      tg_if (y4 = 0)
        (tg_bd (f_X8_meets S1 1) fun S7 r8 =>
          some (S7, r8))
        (tg_nm (60 * v1 : Int32) fun y6 =>
          L_X8_read_32 tg_F S1 v1 0 y6))
-- X8_asTold
def f_X8_asTold_37 (rec37 : tg_S → Int32 → Option (tg_S)) (S : tg_S) (v1 : Int32) : Option (tg_S) :=
  tg_if (16 ≤ v1)
    (tg_pf S 0 16 (-1) fun S2 =>
      some S2)
    (tg_wr S 13 16 v1 (v1 - v1 / 8 * 8) fun S3 =>
      tg_nm (v1 + 1 : Int32) fun y4 =>
      rec37 S3 y4)
def L_X8_asTold_37 : Nat → tg_S → Int32 → Option (tg_S)
  | 0 => fun _ _ => none
  | n + 1 => f_X8_asTold_37  (L_X8_asTold_37  n)
def f_X8_asTold_6 (rec6 : tg_S → Int32 → Option (tg_S)) (S : tg_S) (v1 : Int32) : Option (tg_S) :=
  tg_if (48 ≤ v1)
    (tg_pf S 0 14 0 fun S2 =>
      L_X8_asTold_37 tg_F S2 0)
    (tg_rd S 8 48 v1 fun y3 =>
      tg_wr S 12 48 v1 y3 fun S4 =>
      tg_nm (v1 + 1 : Int32) fun y5 =>
      rec6 S4 y5)
def L_X8_asTold_6 : Nat → tg_S → Int32 → Option (tg_S)
  | 0 => fun _ _ => none
  | n + 1 => f_X8_asTold_6  (L_X8_asTold_6  n)
def f_X8_asTold (S : tg_S) : Option (tg_S) :=
  tg_bv (f_X8_reads S) fun S1 =>
  L_X8_asTold_6 tg_F S1 0
-- X8_isHere
def f_X8_isHere (S : tg_S) (v1 : Int32) : Option (tg_S × Int32) :=
  tg_bd (f_X8_isThereOne S v1) fun S1 r2 =>
  tg_if (r2 = 0)
    (some (S1, 0))
    (tg_if (v1 = (S1 0 16))
        (some (S1, 0))
        (some (S1, 1)))
-- X8_befalls
def f_X8_befalls_126 (rec12 : tg_S → Int32 → Int32 → Option (tg_S)) (S : tg_S) (v1 : Int32) (v2 : Int32) : Option (tg_S) :=
  tg_nm (v2 + 1 : Int32) fun y1 =>
  rec12 S v1 y1
def f_X8_befalls_123 (rec12 : tg_S → Int32 → Int32 → Option (tg_S)) (S : tg_S) (v1 : Int32) (v2 : Int32) (s0 : Int32) : Option (tg_S) :=
  tg_pf S 0 19 s0 fun S1 =>
  f_X8_befalls_126 rec12 S1 v1 v2
def f_X8_befalls_100 (rec12 : tg_S → Int32 → Int32 → Option (tg_S)) (S : tg_S) (v1 : Int32) (v2 : Int32) (s0 : Int32) (s1 : Int32) : Option (tg_S) :=
  tg_pf S 0 18 (s1 + s0) fun S1 =>
  tg_rd S1 9 8 v2 fun y2 =>
  f_X8_befalls_123 rec12 S1 v1 v2 (if y2 = 2 then 1 else (S1 0 19))
def f_X8_befalls_99 (rec12 : tg_S → Int32 → Int32 → Option (tg_S)) (S : tg_S) (v1 : Int32) (v2 : Int32) (s0 : Int32) : Option (tg_S) :=
  f_X8_befalls_100 rec12 S v1 v2 0 s0
def f_X8_befalls_67 (rec12 : tg_S → Int32 → Int32 → Option (tg_S)) (S : tg_S) (v1 : Int32) (v2 : Int32) (s0 : Int32) (s1 : Int32) : Option (tg_S) :=
  tg_pf S 0 20 (s1 ||| s0) fun S1 =>
  tg_rd S1 9 8 v2 fun y2 =>
  tg_if (y2 = 1)
    (tg_if (9 ≤ (S1 0 18))
        (f_X8_befalls_99 rec12 S1 v1 v2 (S1 0 18))
        (f_X8_befalls_100 rec12 S1 v1 v2 1 (S1 0 18)))
    (f_X8_befalls_99 rec12 S1 v1 v2 (S1 0 18))
def f_X8_befalls_12 (rec12 : tg_S → Int32 → Int32 → Option (tg_S)) (S : tg_S) (v1 : Int32) (v2 : Int32) : Option (tg_S) :=
  tg_if ((S 0 9) ≤ v2)
    (some S)
    (tg_rd S 10 8 v2 fun y2 =>
      tg_if (y2 = v1)
        (tg_bd (f_X8_isIn S (S 0 14) v2) fun S4 r5 =>
          tg_if (r5 = 0)
            (tg_rd S4 9 8 v2 fun y7 =>
              tg_if (y7 = 0)
                (tg_rd S4 11 8 v2 fun y9 =>
                  f_X8_befalls_67 rec12 S4 v1 v2 (1 <<< (y9 &&& 31)) (S4 0 20))
                (f_X8_befalls_67 rec12 S4 v1 v2 0 (S4 0 20)))
            (f_X8_befalls_126 rec12 S4 v1 v2))
        (f_X8_befalls_126 rec12 S v1 v2))
def L_X8_befalls_12 : Nat → tg_S → Int32 → Int32 → Option (tg_S)
  | 0 => fun _ _ _ => none
  | n + 1 => f_X8_befalls_12  (L_X8_befalls_12  n)
def f_X8_befalls (S : tg_S) (v1 : Int32) : Option (tg_S) :=
  tg_pf S 0 19 0 fun S1 =>
  tg_pf S1 0 20 0 fun S2 =>
  L_X8_befalls_12 tg_F S2 v1 0
-- X8_strength
def f_X8_strength_177 (S : tg_S) (v1 : Int32) (v3 : Int32) : Option (tg_S × Int32) :=
  tg_rd S 15 16 v1 fun y1 =>
  tg_if (y1 = 0)
    (some (S, 0))
    (tg_rd S 15 16 v1 fun y3 =>
      tg_wr S 15 16 v1 (y3 - 1) fun S4 =>
      tg_rd S4 5 17 v1 fun y5 =>
      tg_if (v3 = 0)
        (some (S4, y5 + 0))
        (some (S4, y5 + 2)))
def f_X8_strength_129 (S : tg_S) (v1 : Int32) (v2 : Int32) (v3 : Int32) (s0 : Int32) : Option (tg_S × Int32) :=
  tg_if (v2 = 2)
    (tg_rd S 15 16 v1 fun y2 =>
      tg_if (y2 < s0)
        (f_X8_strength_177 S v1 v3)
        (tg_rd S 15 16 v1 fun y4 =>
          tg_wr S 15 16 v1 (y4 - s0) fun S5 =>
          tg_rd S5 5 17 v1 fun y6 =>
          tg_if (v3 = 0)
            (some (S5, (2 * y6) + 0))
            (some (S5, (2 * y6) + 2))))
    (f_X8_strength_177 S v1 v3)
def f_X8_strength_99 (S : tg_S) (v1 : Int32) (v3 : Int32) (s0 : Int32) (s1 : Int32) : Option (tg_S × Int32) :=
  tg_wr S 15 16 s1 s0 fun S1 =>
  tg_if (v3 = 0)
    (some (S1, 0))
    (tg_rd S1 5 17 v1 fun y3 =>
      some (S1, y3))
def f_X8_strength_56 (S : tg_S) (v1 : Int32) (v3 : Int32) (s0 : Int32) : Option (tg_S × Int32) :=
  tg_rd S 15 16 v1 fun y1 =>
  tg_rd S 6 17 v1 fun y2 =>
  tg_if ((y1 + s0) ≤ y2)
    (tg_rd S 15 16 v1 fun y4 =>
      f_X8_strength_99 S v1 v3 (y4 + s0) v1)
    (tg_rd S 6 17 v1 fun y5 =>
      f_X8_strength_99 S v1 v3 y5 v1)
def f_X8_strength_28 (S : tg_S) (v1 : Int32) (v2 : Int32) (s0 : Int32) : Option (tg_S × Int32) :=
  tg_if (v2 = 0)
    (tg_if (s0 = 0)
        (tg_rd S 4 17 v1 fun y5 =>
          f_X8_strength_56 S v1 s0 (if y5 = 1 then 2 else 1))
        (f_X8_strength_56 S v1 s0 0))
    (tg_rd S 4 17 v1 fun y2 =>
      f_X8_strength_129 S v1 v2 s0 (if y2 = 0 then 1 else 2))
def f_X8_strength_27 (S : tg_S) (v1 : Int32) (v2 : Int32) : Option (tg_S × Int32) :=
  f_X8_strength_28 S v1 v2 0
def f_X8_strength (S : tg_S) (v1 : Int32) (v2 : Int32) : Option (tg_S × Int32) :=
  tg_rd S 4 17 v1 fun y1 =>
  tg_if (y1 = 2)
    (tg_rd S 14 2 (v1 / 8) fun y3 =>
      tg_if (y3 = v1)
        (f_X8_strength_28 S v1 v2 1)
        (f_X8_strength_27 S v1 v2))
    (f_X8_strength_27 S v1 v2)
-- X8_pullsOne
def f_X8_pullsOne_91 (S : tg_S) (v1 : Int32) (s0 : Int32) (s1 : Int32) : Option (tg_S) :=
  tg_wr S 17 16 s1 s0 fun S1 =>
  tg_rd S1 16 16 v1 fun y2 =>
  tg_rd S1 17 16 v1 fun y3 =>
  tg_wr S1 16 16 v1 (y2 + y3) fun S4 =>
  tg_rd S4 18 2 (v1 / 8) fun y5 =>
  tg_rd S4 17 16 v1 fun y6 =>
  tg_wr S4 18 2 (v1 / 8) (y5 + y6) fun S7 =>
  some S7
def f_X8_pullsOne_68 (S : tg_S) (v1 : Int32) (v4 : Int32) (s0 : Int32) : Option (tg_S) :=
  f_X8_pullsOne_91 S v1 (if v4 ≤ s0 then 0 else (v4 - s0)) v1
def f_X8_pullsOne_48 (S : tg_S) (v1 : Int32) (s0 : Int32) : Option (tg_S) :=
  tg_rd S 4 17 v1 fun y1 =>
  f_X8_pullsOne_68 S v1 s0 (if y1 = 2 then 0 else (S 0 18))
def f_X8_pullsOne_26 (S : tg_S) (v1 : Int32) (s0 : Int32) : Option (tg_S) :=
  tg_bd (f_X8_isIn S (S 0 20) v1) fun S1 r2 =>
  tg_if (r2 = 0)
    (tg_bd (f_X8_strength S1 v1 s0) fun S4 r5 =>
      f_X8_pullsOne_48 S4 v1 r5)
    (f_X8_pullsOne_48 S1 v1 0)
def f_X8_pullsOne (S : tg_S) (v1 : Int32) (v2 : Int32) : Option (tg_S) :=
  tg_if ((S 0 19) = 1)
    (f_X8_pullsOne_26 S v1 0)
    (tg_rd S 12 48 ((24 * (v1 / 8)) + v2) fun y2 =>
      f_X8_pullsOne_26 S v1 y2)
-- X8_goes
def f_X8_goes_102 (S : tg_S) (v1 : Int32) (s0 : Int32) : Option (tg_S) :=
  tg_pf S 0 22 s0 fun S1 =>
  tg_if ((S1 0 22) = (-1))
    (tg_pf S1 0 23 (-1) fun S4 =>
      some S4)
    (tg_pf S1 0 23 v1 fun S3 =>
      some S3)
def f_X8_goes_71 (S : tg_S) (v1 : Int32) (s0 : Int32) (s1 : Int32) : Option (tg_S) :=
  tg_pf S 0 21 (s1 + s0) fun S1 =>
  f_X8_goes_102 S1 v1 (if (S1 0 21) < 22 then (if 2 < (S1 0 21) then (-1) else 1) else 0)
def f_X8_goes_52 (S : tg_S) (v1 : Int32) (v2 : Int32) (v3 : Int32) (s0 : Int32) (s1 : Int32) : Option (tg_S) :=
  tg_pf S 0 24 (s1 + s0) fun S1 =>
  f_X8_goes_71 S1 v1 (if 0 ≤ v2 then v3 else (-v3)) (S1 0 21)
def f_X8_goes_37 (S : tg_S) (v1 : Int32) (v2 : Int32) (s0 : Int32) : Option (tg_S) :=
  f_X8_goes_52 S v1 v2 s0 (if v2 = 0 then 1 else 0) (S 0 24)
def f_X8_goes_24 (S : tg_S) (v1 : Int32) (v2 : Int32) (s0 : Int32) : Option (tg_S) :=
  tg_nm (s0 / 3 : Int32) fun y1 =>
  f_X8_goes_37 S v1 v2 (if y1 ≤ 3 then y1 else 3)
def f_X8_goes (S : tg_S) (v1 : Int32) : Option (tg_S) :=
  tg_rd S 18 2 0 fun y1 =>
  tg_rd S 18 2 1 fun y2 =>
  tg_nm (y1 - y2 : Int32) fun y3 =>
  f_X8_goes_24 S v1 y3 (if 0 ≤ y3 then y3 else (-y3))
-- X8_goesBy
def f_X8_goesBy_127 (rec127 : tg_S → Int32 → Int32 → Option (tg_S)) (S : tg_S) (v1 : Int32) (v2 : Int32) : Option (tg_S) :=
  tg_if (16 ≤ v2)
    (some S)
    (tg_rd S 17 16 v2 fun y2 =>
      tg_wr S 22 384 ((16 * v1) + v2) y2 fun S3 =>
      tg_rd S3 15 16 v2 fun y4 =>
      tg_wr S3 23 384 ((16 * v1) + v2) y4 fun S5 =>
      tg_nm (v2 + 1 : Int32) fun y6 =>
      rec127 S5 v1 y6)
def L_X8_goesBy_127 : Nat → tg_S → Int32 → Int32 → Option (tg_S)
  | 0 => fun _ _ _ => none
  | n + 1 => f_X8_goesBy_127  (L_X8_goesBy_127  n)
def f_X8_goesBy_75 (S : tg_S) (v1 : Int32) : Option (tg_S) :=
  tg_wr S 19 24 v1 (S 0 21) fun S1 =>
  tg_wr S1 20 24 v1 (S1 0 18) fun S2 =>
  tg_rd S2 18 2 0 fun y3 =>
  tg_wr S2 21 48 (2 * v1) y3 fun S4 =>
  tg_rd S4 18 2 1 fun y5 =>
  tg_wr S4 21 48 ((2 * v1) + 1) y5 fun S6 =>
  L_X8_goesBy_127 tg_F S6 v1 0
def f_X8_goesBy_56 (rec21 : tg_S → Int32 → Int32 → Option (tg_S)) (S : tg_S) (v1 : Int32) (v2 : Int32) : Option (tg_S) :=
  tg_nm (v2 + 1 : Int32) fun y1 =>
  rec21 S v1 y1
def f_X8_goesBy_21 (rec21 : tg_S → Int32 → Int32 → Option (tg_S)) (S : tg_S) (v1 : Int32) (v2 : Int32) : Option (tg_S) :=
  tg_if (16 ≤ v2)
    (tg_if ((S 0 22) = (-1))
        (tg_bv (f_X8_goes S v1) fun S3 =>
          f_X8_goesBy_75 S3 v1)
        (f_X8_goesBy_75 S v1))
    (tg_wr S 17 16 v2 0 fun S4 =>
      tg_bd (f_X8_isHere S4 v2) fun S5 r6 =>
      tg_if (r6 = 0)
        (f_X8_goesBy_56 rec21 S5 v1 v2)
        (tg_if ((S5 0 22) = (-1))
            (tg_bv (f_X8_pullsOne S5 v2 v1) fun S9 =>
              f_X8_goesBy_56 rec21 S9 v1 v2)
            (f_X8_goesBy_56 rec21 S5 v1 v2)))
def L_X8_goesBy_21 : Nat → tg_S → Int32 → Int32 → Option (tg_S)
  | 0 => fun _ _ _ => none
  | n + 1 => f_X8_goesBy_21  (L_X8_goesBy_21  n)
def f_X8_goesBy (S : tg_S) (v1 : Int32) : Option (tg_S) :=
  tg_bv (f_X8_befalls S v1) fun S1 =>
  tg_wr S1 18 2 0 0 fun S2 =>
  tg_wr S2 18 2 1 0 fun S3 =>
  L_X8_goesBy_21 tg_F S3 v1 0
-- X8_runs
def f_X8_runs_159 (rec159 : tg_S → Int32 → Option (tg_S)) (S : tg_S) (v1 : Int32) : Option (tg_S) :=
  tg_if (24 ≤ v1)
    (some S)
    (tg_bv (f_X8_goesBy S v1) fun S2 =>
      tg_nm (v1 + 1 : Int32) fun y3 =>
      rec159 S2 y3)
def L_X8_runs_159 : Nat → tg_S → Int32 → Option (tg_S)
  | 0 => fun _ _ => none
  | n + 1 => f_X8_runs_159  (L_X8_runs_159  n)
def f_X8_runs_150 (rec45 : tg_S → Int32 → Option (tg_S)) (S : tg_S) (v1 : Int32) (s0 : Int32) (s1 : Int32) : Option (tg_S) :=
  tg_wr S 14 2 s1 s0 fun S1 =>
  tg_nm (v1 + 1 : Int32) fun y2 =>
  rec45 S1 y2
def f_X8_runs_130 (rec45 : tg_S → Int32 → Option (tg_S)) (S : tg_S) (v1 : Int32) (v2 : Int32) (s0 : Int32) : Option (tg_S) :=
  tg_if (s0 = 0)
    (tg_rd S 14 2 v2 fun y2 =>
      f_X8_runs_150 rec45 S v1 y2 v2)
    (f_X8_runs_150 rec45 S v1 v1 v2)
def f_X8_runs_129 (rec45 : tg_S → Int32 → Option (tg_S)) (S : tg_S) (v1 : Int32) (v2 : Int32) : Option (tg_S) :=
  f_X8_runs_130 rec45 S v1 v2 0
def f_X8_runs_125 (rec45 : tg_S → Int32 → Option (tg_S)) (S : tg_S) (v1 : Int32) (v2 : Int32) : Option (tg_S) :=
  f_X8_runs_130 rec45 S v1 v2 1
def f_X8_runs_79 (rec45 : tg_S → Int32 → Option (tg_S)) (S : tg_S) (v1 : Int32) (v2 : Int32) (s0 : Int32) (s1 : Int32) : Option (tg_S) :=
  tg_wr S 15 16 s1 s0 fun S1 =>
  tg_wr S1 16 16 v1 0 fun S2 =>
  tg_bd (f_X8_isHere S2 v1) fun S3 r4 =>
  tg_if (r4 = 0)
    (f_X8_runs_129 rec45 S3 v1 v2)
    (tg_rd S3 14 2 v2 fun y6 =>
      tg_if (y6 = (-1))
        (f_X8_runs_125 rec45 S3 v1 v2)
        (tg_rd S3 13 16 v1 fun y8 =>
          tg_rd S3 14 2 v2 fun y9 =>
          tg_rd S3 13 16 y9 fun y10 =>
          tg_if (y8 ≤ y10)
            (f_X8_runs_129 rec45 S3 v1 v2)
            (f_X8_runs_125 rec45 S3 v1 v2)))
def f_X8_runs_45 (rec45 : tg_S → Int32 → Option (tg_S)) (S : tg_S) (v1 : Int32) : Option (tg_S) :=
  tg_if (16 ≤ v1)
    (L_X8_runs_159 tg_F S 0)
    (tg_nm (v1 / 8 : Int32) fun y2 =>
      tg_bd (f_X8_isThereOne S v1) fun S3 r4 =>
      tg_if (r4 = 0)
        (f_X8_runs_79 rec45 S3 v1 y2 0 v1)
        (tg_rd S3 6 17 v1 fun y6 =>
          f_X8_runs_79 rec45 S3 v1 y2 y6 v1))
def L_X8_runs_45 : Nat → tg_S → Int32 → Option (tg_S)
  | 0 => fun _ _ => none
  | n + 1 => f_X8_runs_45  (L_X8_runs_45  n)
def f_X8_runs (S : tg_S) : Option (tg_S) :=
  tg_pf S 0 18 (S 0 8) fun S1 =>
  tg_pf S1 0 21 12 fun S2 =>
  tg_pf S2 0 22 (-1) fun S3 =>
  tg_pf S3 0 23 (-1) fun S4 =>
  tg_pf S4 0 24 0 fun S5 =>
  tg_wr S5 14 2 0 (-1) fun S6 =>
  tg_wr S6 14 2 1 (-1) fun S7 =>
  L_X8_runs_45 tg_F S7 0
-- X8_runsTold
def f_X8_runsTold (S : tg_S) : Option (tg_S) :=
  tg_bv (f_X8_asTold S) fun S1 =>
  tg_bv (f_X8_runs S1) fun S2 =>
  some S2
-- X8_ropeOf
def f_X8_ropeOf (S : tg_S) (v1 : Int32) (v2 : Int32) : Option (tg_S × Int32) :=
  tg_bv (f_X8_runsTold S) fun S1 =>
  tg_if (v2 = 0)
    (tg_rd S1 19 24 v1 fun y6 =>
      some (S1, y6))
    (tg_if (v2 = 3)
        (tg_rd S1 20 24 v1 fun y5 =>
          some (S1, y5))
        (tg_rd S1 21 48 (((2 * v1) + v2) - 1) fun y4 =>
          some (S1, y4)))
-- X8_rope
def f_X8_rope (S : tg_S) (v1 : Int32) (v2 : Int32) : Option (tg_S × Int32) :=
  tg_bd (f_X8_isBeat S v1) fun S1 r2 =>
  tg_if (r2 = 0)
    (some (S1, -2))
    (tg_bd (f_X8_in S1 v2 0 3) fun S4 r5 =>
      tg_if (r5 = 0)
        (some (S4, -2))
        (tg_bd (f_X8_ropeOf S4 v1 v2) fun S7 r8 =>
          some (S7, r8)))
-- X8_atOf
def f_X8_atOf (S : tg_S) (v1 : Int32) (v2 : Int32) (v3 : Int32) : Option (tg_S × Int32) :=
  tg_bv (f_X8_runsTold S) fun S1 =>
  tg_if (v3 = 0)
    (tg_rd S1 22 384 ((16 * v1) + v2) fun y4 =>
      some (S1, y4))
    (tg_rd S1 23 384 ((16 * v1) + v2) fun y3 =>
      some (S1, y3))
-- X8_at
def f_X8_at (S : tg_S) (v1 : Int32) (v2 : Int32) (v3 : Int32) : Option (tg_S × Int32) :=
  tg_bd (f_X8_isBeat S v1) fun S1 r2 =>
  tg_if (r2 = 0)
    (some (S1, -2))
    (tg_bd (f_X8_isPuller S1 v2) fun S4 r5 =>
      tg_if (r5 = 0)
        (some (S4, -2))
        (tg_bd (f_X8_isTwo S4 v3) fun S7 r8 =>
          tg_if (r8 = 0)
            (some (S7, -2))
            (tg_bd (f_X8_atOf S7 v1 v2 v3) fun S10 r11 =>
              some (S10, r11))))
-- X8_wonOf
def f_X8_wonOf (S : tg_S) (v1 : Int32) : Option (tg_S × Int32) :=
  tg_bv (f_X8_runsTold S) fun S1 =>
  tg_if (v1 = 0)
    (some (S1, S1 0 22))
    (some (S1, S1 0 23))
-- X8_won
def f_X8_won (S : tg_S) (v1 : Int32) : Option (tg_S × Int32) :=
  tg_bd (f_X8_isTwo S v1) fun S1 r2 =>
  tg_if (r2 = 0)
    (some (S1, -2))
    (tg_bd (f_X8_wonOf S1 v1) fun S4 r5 =>
      some (S4, r5))
-- X8_furthestOf
def f_X8_furthestOf_69 (rec9 : tg_S → Int32 → Int32 → Int32 → Option (tg_S × Int32)) (S : tg_S) (v1 : Int32) (v3 : Int32) (s0 : Int32) : Option (tg_S × Int32) :=
  tg_nm (v3 + 1 : Int32) fun y1 =>
  rec9 S v1 s0 y1
def f_X8_furthestOf_52 (rec9 : tg_S → Int32 → Int32 → Int32 → Option (tg_S × Int32)) (S : tg_S) (v1 : Int32) (v2 : Int32) (v3 : Int32) (s0 : Int32) : Option (tg_S × Int32) :=
  tg_if (s0 = 0)
    (f_X8_furthestOf_69 rec9 S v1 v3 v2)
    (tg_rd S 19 24 v3 fun y2 =>
      f_X8_furthestOf_69 rec9 S v1 v3 y2)
def f_X8_furthestOf_9 (rec9 : tg_S → Int32 → Int32 → Int32 → Option (tg_S × Int32)) (S : tg_S) (v1 : Int32) (v2 : Int32) (v3 : Int32) : Option (tg_S × Int32) :=
  tg_if (24 ≤ v3)
    (some (S, v2))
    (tg_if (v1 = 0)
        (tg_rd S 19 24 v3 fun y5 =>
          f_X8_furthestOf_52 rec9 S v1 v2 v3 (if y5 ≤ v2 then 0 else 1))
        (tg_rd S 19 24 v3 fun y3 =>
          f_X8_furthestOf_52 rec9 S v1 v2 v3 (if v2 ≤ y3 then 0 else 1)))
def L_X8_furthestOf_9 : Nat → tg_S → Int32 → Int32 → Int32 → Option (tg_S × Int32)
  | 0 => fun _ _ _ _ => none
  | n + 1 => f_X8_furthestOf_9  (L_X8_furthestOf_9  n)
def f_X8_furthestOf (S : tg_S) (v1 : Int32) : Option (tg_S × Int32) :=
  tg_bv (f_X8_runsTold S) fun S1 =>
  L_X8_furthestOf_9 tg_F S1 v1 12 0
-- X8_furthest
def f_X8_furthest (S : tg_S) (v1 : Int32) : Option (tg_S × Int32) :=
  tg_bd (f_X8_isTwo S v1) fun S1 r2 =>
  tg_if (r2 = 0)
    (some (S1, -2))
    (tg_bd (f_X8_furthestOf S1 v1) fun S4 r5 =>
      some (S4, r5))
-- X8_doneOf
def f_X8_doneOf (S : tg_S) (v1 : Int32) : Option (tg_S × Int32) :=
  tg_bv (f_X8_runsTold S) fun S1 =>
  tg_rd S1 16 16 v1 fun y2 =>
  some (S1, y2)
-- X8_done
def f_X8_done (S : tg_S) (v1 : Int32) : Option (tg_S × Int32) :=
  tg_bd (f_X8_isPuller S v1) fun S1 r2 =>
  tg_if (r2 = 0)
    (some (S1, -2))
    (tg_bd (f_X8_doneOf S1 v1) fun S4 r5 =>
      some (S4, r5))
-- X8_spentOf
def f_X8_spentOf_39 (rec8 : tg_S → Int32 → Int32 → Option (tg_S × Int32)) (S : tg_S) (v2 : Int32) (s0 : Int32) (s1 : Int32) : Option (tg_S × Int32) :=
  tg_nm (s1 ||| s0 : Int32) fun y1 =>
  tg_nm (v2 + 1 : Int32) fun y2 =>
  rec8 S y1 y2
def f_X8_spentOf_38 (rec8 : tg_S → Int32 → Int32 → Option (tg_S × Int32)) (S : tg_S) (v2 : Int32) (s0 : Int32) : Option (tg_S × Int32) :=
  f_X8_spentOf_39 rec8 S v2 0 s0
def f_X8_spentOf_8 (rec8 : tg_S → Int32 → Int32 → Option (tg_S × Int32)) (S : tg_S) (v1 : Int32) (v2 : Int32) : Option (tg_S × Int32) :=
  tg_if (16 ≤ v2)
    (some (S, v1))
    (tg_bd (f_X8_isThereOne S v2) fun S2 r3 =>
      tg_if (r3 = 0)
        (f_X8_spentOf_38 rec8 S2 v2 v1)
        (tg_rd S2 15 16 v2 fun y5 =>
          tg_if (y5 = 0)
            (f_X8_spentOf_39 rec8 S2 v2 (1 <<< (v2 &&& 31)) v1)
            (f_X8_spentOf_38 rec8 S2 v2 v1)))
def L_X8_spentOf_8 : Nat → tg_S → Int32 → Int32 → Option (tg_S × Int32)
  | 0 => fun _ _ _ => none
  | n + 1 => f_X8_spentOf_8  (L_X8_spentOf_8  n)
def f_X8_spentOf (S : tg_S) : Option (tg_S × Int32) :=
  tg_bv (f_X8_runsTold S) fun S1 =>
  L_X8_spentOf_8 tg_F S1 0 0
-- X8_spent
def f_X8_spent (S : tg_S) : Option (tg_S × Int32) :=
  tg_bd (f_X8_spentOf S) fun S1 r2 =>
  some (S1, r2)
-- X8_bestOf
def f_X8_bestOf_52 (rec10 : tg_S → Int32 → Int32 → Int32 → Option (tg_S × Int32)) (S : tg_S) (v1 : Int32) (v3 : Int32) (s0 : Int32) : Option (tg_S × Int32) :=
  tg_nm (v3 + 1 : Int32) fun y1 =>
  rec10 S v1 s0 y1
def f_X8_bestOf_31 (rec10 : tg_S → Int32 → Int32 → Int32 → Option (tg_S × Int32)) (S : tg_S) (v2 : Int32) (v3 : Int32) (s0 : Int32) : Option (tg_S × Int32) :=
  tg_rd S 16 16 v3 fun y1 =>
  tg_if (y1 ≤ v2)
    (f_X8_bestOf_52 rec10 S s0 v3 v2)
    (tg_rd S 16 16 v3 fun y3 =>
      f_X8_bestOf_52 rec10 S s0 v3 y3)
def f_X8_bestOf_10 (rec10 : tg_S → Int32 → Int32 → Int32 → Option (tg_S × Int32)) (S : tg_S) (v1 : Int32) (v2 : Int32) (v3 : Int32) : Option (tg_S × Int32) :=
  tg_if (16 ≤ v3)
    (some (S, v1))
    (tg_rd S 16 16 v3 fun y2 =>
      f_X8_bestOf_31 rec10 S v2 v3 (if y2 ≤ v2 then v1 else v3))
def L_X8_bestOf_10 : Nat → tg_S → Int32 → Int32 → Int32 → Option (tg_S × Int32)
  | 0 => fun _ _ _ _ => none
  | n + 1 => f_X8_bestOf_10  (L_X8_bestOf_10  n)
def f_X8_bestOf (S : tg_S) : Option (tg_S × Int32) :=
  tg_bv (f_X8_runsTold S) fun S1 =>
  tg_nm (-1 : Int32) fun y2 =>
  L_X8_bestOf_10 tg_F S1 y2 0 0
-- X8_best
def f_X8_best (S : tg_S) : Option (tg_S × Int32) :=
  tg_bd (f_X8_bestOf S) fun S1 r2 =>
  some (S1, r2)
-- X8_levelOf
def f_X8_levelOf (S : tg_S) : Option (tg_S × Int32) :=
  tg_bv (f_X8_runsTold S) fun S1 =>
  some (S1, S1 0 24)
-- X8_level
def f_X8_level (S : tg_S) : Option (tg_S × Int32) :=
  tg_bd (f_X8_levelOf S) fun S1 r2 =>
  some (S1, r2)
-- X8_starts
def f_X8_starts (S : tg_S) : Option (tg_S) :=
  tg_bv (f_X8_asTold S) fun S1 =>
  tg_pf S1 0 34 (-1) fun S2 =>
  tg_pf S2 0 35 (-1) fun S3 =>
  some S3
-- X8_tries
def f_X8_tries_60 (S : tg_S) (v3 : Int32) (s0 : Int32) : Option (tg_S) :=
  tg_pf S 0 34 s0 fun S1 =>
  tg_if (v3 = 0)
    (tg_pf S1 0 35 (S1 0 35) fun S3 =>
      some S3)
    (tg_pf S1 0 35 (S1 0 21) fun S4 =>
      some S4)
def f_X8_tries_46 (S : tg_S) (v1 : Int32) (s0 : Int32) : Option (tg_S) :=
  f_X8_tries_60 S s0 (if s0 = 0 then (S 0 34) else v1)
def f_X8_tries_45 (S : tg_S) (v1 : Int32) : Option (tg_S) :=
  f_X8_tries_46 S v1 0
def f_X8_tries_41 (S : tg_S) (v1 : Int32) : Option (tg_S) :=
  f_X8_tries_46 S v1 1
def f_X8_tries (S : tg_S) (v1 : Int32) (v2 : Int32) : Option (tg_S) :=
  tg_bv (f_X8_runs S) fun S1 =>
  tg_if ((S1 0 34) = (-1))
    (f_X8_tries_41 S1 v1)
    (tg_if (v2 = 0)
        (tg_if ((S1 0 21) ≤ (S1 0 35))
            (f_X8_tries_45 S1 v1)
            (f_X8_tries_41 S1 v1))
        (tg_if ((S1 0 35) ≤ (S1 0 21))
            (f_X8_tries_45 S1 v1)
            (f_X8_tries_41 S1 v1)))
-- X8_betterOf
def f_X8_betterOf_7 (rec7 : tg_S → Int32 → Int32 → Int32 → Int32 → Option (tg_S × Int32)) (S : tg_S) (v1 : Int32) (v2 : Int32) (v3 : Int32) (v4 : Int32) : Option (tg_S × Int32) :=
  tg_if (3 ≤ v4)
    (tg_if (v3 = 0)
        (some (S, S 0 34))
        (some (S, S 0 35)))
    (tg_wr S 12 48 ((24 * v1) + v2) v4 fun S3 =>
      tg_bv (f_X8_tries S3 v4 v1) fun S4 =>
      tg_nm (v4 + 1 : Int32) fun y5 =>
      rec7 S4 v1 v2 v3 y5)
def L_X8_betterOf_7 : Nat → tg_S → Int32 → Int32 → Int32 → Int32 → Option (tg_S × Int32)
  | 0 => fun _ _ _ _ _ => none
  | n + 1 => f_X8_betterOf_7  (L_X8_betterOf_7  n)
def f_X8_betterOf (S : tg_S) (v1 : Int32) (v2 : Int32) (v3 : Int32) : Option (tg_S × Int32) :=
  tg_bv (f_X8_starts S) fun S1 =>
  L_X8_betterOf_7 tg_F S1 v1 v2 v3 0
-- X8_better
def f_X8_better (S : tg_S) (v1 : Int32) (v2 : Int32) (v3 : Int32) : Option (tg_S × Int32) :=
  tg_bd (f_X8_isTwo S v1) fun S1 r2 =>
  tg_if (r2 = 0)
    (some (S1, -2))
    (tg_bd (f_X8_isBeat S1 v2) fun S4 r5 =>
      tg_if (r5 = 0)
        (some (S4, -2))
        (tg_bd (f_X8_isTwo S4 v3) fun S7 r8 =>
          tg_if (r8 = 0)
            (some (S7, -2))
            (tg_bd (f_X8_betterOf S7 v1 v2 v3) fun S10 r11 =>
              some (S10, r11))))
-- X8_swapOf
def f_X8_swapOf_31 (rec12 : tg_S → Int32 → Int32 → Int32 → Int32 → Option (tg_S × Int32)) (rec31 : tg_S → Int32 → Int32 → Int32 → Int32 → Int32 → Option (tg_S × Int32)) (S : tg_S) (v1 : Int32) (v2 : Int32) (v3 : Int32) (v4 : Int32) (v5 : Int32) : Option (tg_S × Int32) :=
  tg_rd S 3 2 v1 fun y1 =>
  tg_if ((v3 + y1) ≤ v5)
    (tg_nm (v4 + 1 : Int32) fun y3 =>
      rec12 S v1 v2 v3 y3)
    (tg_wr S 13 16 v4 (v5 - v5 / 8 * 8) fun S4 =>
      tg_wr S4 13 16 v5 (v4 - v4 / 8 * 8) fun S5 =>
      tg_bv (f_X8_tries S5 ((16 * v4) + v5) v1) fun S6 =>
      tg_wr S6 13 16 v4 (v4 - v4 / 8 * 8) fun S7 =>
      tg_wr S7 13 16 v5 (v5 - v5 / 8 * 8) fun S8 =>
      tg_nm (v5 + 1 : Int32) fun y9 =>
      rec31 S8 v1 v2 v3 v4 y9)
def L_X8_swapOf_31 (rec12 : tg_S → Int32 → Int32 → Int32 → Int32 → Option (tg_S × Int32)) : Nat → tg_S → Int32 → Int32 → Int32 → Int32 → Int32 → Option (tg_S × Int32)
  | 0 => fun _ _ _ _ _ _ => none
  | n + 1 => f_X8_swapOf_31 rec12 (L_X8_swapOf_31 rec12 n)
def f_X8_swapOf_12 (rec12 : tg_S → Int32 → Int32 → Int32 → Int32 → Option (tg_S × Int32)) (S : tg_S) (v1 : Int32) (v2 : Int32) (v3 : Int32) (v4 : Int32) : Option (tg_S × Int32) :=
  tg_rd S 3 2 v1 fun y1 =>
  tg_if ((v3 + y1) ≤ v4)
    (tg_if ((S 0 34) = (-1))
        (some (S, -1))
        (tg_if (v2 = 0)
            (some (S, (S 0 34) / 16))
            (tg_if (v2 = 1)
                (some (S, (S 0 34) - (S 0 34) / 16 * 16))
                (some (S, S 0 35)))))
    (tg_nm (v4 + 1 : Int32) fun y6 =>
      L_X8_swapOf_31 rec12 tg_F S v1 v2 v3 v4 y6)
def L_X8_swapOf_12 : Nat → tg_S → Int32 → Int32 → Int32 → Int32 → Option (tg_S × Int32)
  | 0 => fun _ _ _ _ _ => none
  | n + 1 => f_X8_swapOf_12  (L_X8_swapOf_12  n)
def f_X8_swapOf (S : tg_S) (v1 : Int32) (v2 : Int32) : Option (tg_S × Int32) :=
  tg_bv (f_X8_starts S) fun S1 =>
  tg_nm (8 * v1 : Int32) fun y2 =>
  L_X8_swapOf_12 tg_F S1 v1 v2 y2 y2
-- X8_swap
def f_X8_swap (S : tg_S) (v1 : Int32) (v2 : Int32) : Option (tg_S × Int32) :=
  tg_bd (f_X8_isTwo S v1) fun S1 r2 =>
  tg_if (r2 = 0)
    (some (S1, -2))
    (tg_bd (f_X8_isThree S1 v2) fun S4 r5 =>
      tg_if (r5 = 0)
        (some (S4, -2))
        (tg_bd (f_X8_swapOf S4 v1 v2) fun S7 r8 =>
          some (S7, r8)))
-- X8_outOf
def f_X8_outOf_9 (rec9 : tg_S → Int32 → Int32 → Int32 → Option (tg_S × Int32)) (S : tg_S) (v1 : Int32) (v2 : Int32) (v3 : Int32) : Option (tg_S × Int32) :=
  tg_rd S 3 2 v1 fun y1 =>
  tg_if (((8 * v1) + y1) ≤ v3)
    (tg_if (v2 = 0)
        (some (S, S 0 34))
        (some (S, S 0 35)))
    (tg_pf S 0 16 v3 fun S4 =>
      tg_bv (f_X8_tries S4 v3 v1) fun S5 =>
      tg_nm (v3 + 1 : Int32) fun y6 =>
      rec9 S5 v1 v2 y6)
def L_X8_outOf_9 : Nat → tg_S → Int32 → Int32 → Int32 → Option (tg_S × Int32)
  | 0 => fun _ _ _ _ => none
  | n + 1 => f_X8_outOf_9  (L_X8_outOf_9  n)
def f_X8_outOf (S : tg_S) (v1 : Int32) (v2 : Int32) : Option (tg_S × Int32) :=
  tg_bv (f_X8_starts S) fun S1 =>
  tg_nm (8 * v1 : Int32) fun y2 =>
  L_X8_outOf_9 tg_F S1 v1 v2 y2
-- X8_out
def f_X8_out (S : tg_S) (v1 : Int32) (v2 : Int32) : Option (tg_S × Int32) :=
  tg_bd (f_X8_isTwo S v1) fun S1 r2 =>
  tg_if (r2 = 0)
    (some (S1, -2))
    (tg_bd (f_X8_isTwo S1 v2) fun S4 r5 =>
      tg_if (r5 = 0)
        (some (S4, -2))
        (tg_bd (f_X8_outOf S4 v1 v2) fun S7 r8 =>
          some (S7, r8)))
-- X8_isSpared
def f_X8_isSpared (S : tg_S) (v1 : Int32) : Option (tg_S × Int32) :=
  tg_pf S 0 14 v1 fun S1 =>
  tg_bv (f_X8_runs S1) fun S2 =>
  tg_if ((S2 0 22) = 1)
    (some (S2, 0))
    (some (S2, 1))
-- X8_spareBy
def f_X8_spareBy_63 (rec51 : tg_S → Int32 → Option (tg_S × Int32)) (rec63 : tg_S → Int32 → Int32 → Option (tg_S × Int32)) (S : tg_S) (v1 : Int32) (v2 : Int32) : Option (tg_S × Int32) :=
  tg_if ((S 0 9) ≤ v2)
    (tg_nm (v1 + 1 : Int32) fun y2 =>
      rec51 S y2)
    (tg_wr S 24 2 0 v1 fun S3 =>
      tg_wr S3 24 2 1 v2 fun S4 =>
      tg_bd (f_X8_isSpared S4 ((1 <<< (v1 &&& 31)) ||| (1 <<< (v2 &&& 31)))) fun S5 r6 =>
      tg_if (r6 = 0)
        (tg_nm (v2 + 1 : Int32) fun y8 =>
          rec63 S5 v1 y8)
        (some (S5, 2)))
def L_X8_spareBy_63 (rec51 : tg_S → Int32 → Option (tg_S × Int32)) : Nat → tg_S → Int32 → Int32 → Option (tg_S × Int32)
  | 0 => fun _ _ _ => none
  | n + 1 => f_X8_spareBy_63 rec51 (L_X8_spareBy_63 rec51 n)
def f_X8_spareBy_51 (rec51 : tg_S → Int32 → Option (tg_S × Int32)) (S : tg_S) (v1 : Int32) : Option (tg_S × Int32) :=
  tg_if ((S 0 9) ≤ v1)
    (some (S, -1))
    (tg_nm (v1 + 1 : Int32) fun y2 =>
      L_X8_spareBy_63 rec51 tg_F S v1 y2)
def L_X8_spareBy_51 : Nat → tg_S → Int32 → Option (tg_S × Int32)
  | 0 => fun _ _ => none
  | n + 1 => f_X8_spareBy_51  (L_X8_spareBy_51  n)
def f_X8_spareBy_16 (rec16 : tg_S → Int32 → Option (tg_S × Int32)) (S : tg_S) (v1 : Int32) : Option (tg_S × Int32) :=
  tg_if ((S 0 9) ≤ v1)
    (L_X8_spareBy_51 tg_F S 0)
    (tg_wr S 24 2 0 v1 fun S2 =>
      tg_bd (f_X8_isSpared S2 (1 <<< (v1 &&& 31))) fun S3 r4 =>
      tg_if (r4 = 0)
        (tg_nm (v1 + 1 : Int32) fun y6 =>
          rec16 S3 y6)
        (some (S3, 1)))
def L_X8_spareBy_16 : Nat → tg_S → Int32 → Option (tg_S × Int32)
  | 0 => fun _ _ => none
  | n + 1 => f_X8_spareBy_16  (L_X8_spareBy_16  n)
def f_X8_spareBy (S : tg_S) : Option (tg_S × Int32) :=
  tg_bv (f_X8_asTold S) fun S1 =>
  tg_bd (f_X8_isSpared S1 0) fun S2 r3 =>
  tg_if (r3 = 0)
    (L_X8_spareBy_16 tg_F S2 0)
    (some (S2, 0))
-- X8_ofRow
def f_X8_ofRow (S : tg_S) (v1 : Int32) (v2 : Int32) : Option (tg_S × Int32) :=
  tg_if (v2 = (-1))
    (some (S, v1))
    (tg_if (v1 ≤ v2)
        (some (S, -1))
        (tg_rd S 24 2 v2 fun y3 =>
          some (S, y3)))
-- X8_spare
def f_X8_spare (S : tg_S) (v1 : Int32) : Option (tg_S × Int32) :=
  tg_bd (f_X8_in S v1 (-1) 1) fun S1 r2 =>
  tg_if (r2 = 0)
    (some (S1, -2))
    (tg_bd (f_X8_spareBy S1) fun S4 r5 =>
      tg_bd (f_X8_ofRow S4 r5 v1) fun S6 r7 =>
      some (S6, r7))
-- X8_seen
def f_X8_seen (S : tg_S) (v1 : Int32) (v2 : Int32) : Option (tg_S × Int32) :=
  tg_bd (f_X8_isBeat S v1) fun S1 r2 =>
  tg_if (r2 = 0)
    (some (S1, -2))
    (tg_bd (f_X8_in S1 v2 0 24) fun S4 r5 =>
      tg_if (r5 = 0)
        (some (S4, -2))
        (tg_if ((S4 0 37) = 8)
            (some (S4, -4))
            (tg_wr S4 25 8 (S4 0 37) v1 fun S8 =>
              tg_wr S8 26 8 (S8 0 37) v2 fun S9 =>
              tg_pf S9 0 37 ((S9 0 37) + 1) fun S10 =>
              some (S10, S10 0 37))))
-- X8_forget
def f_X8_forget (S : tg_S) : Option (tg_S × Int32) :=
  tg_nm (S 0 37 : Int32) fun y1 =>
  tg_pf S 0 37 0 fun S2 =>
  some (S2, y1)
-- X8_isSeen
def f_X8_isSeen_45 (rec8 : tg_S → Int32 → Int32 → Option (tg_S × Int32)) (S : tg_S) (v2 : Int32) (s0 : Int32) : Option (tg_S × Int32) :=
  tg_nm (v2 + 1 : Int32) fun y1 =>
  rec8 S s0 y1
def f_X8_isSeen_8 (rec8 : tg_S → Int32 → Int32 → Option (tg_S × Int32)) (S : tg_S) (v1 : Int32) (v2 : Int32) : Option (tg_S × Int32) :=
  tg_if ((S 0 37) ≤ v2)
    (tg_bz v1 (some (S, v1)))
    (tg_if (v1 = 0)
        (tg_bz v1 (some (S, v1)))
        (tg_rd S 25 8 v2 fun y3 =>
          tg_rd S 19 24 y3 fun y4 =>
          tg_rd S 26 8 v2 fun y5 =>
          f_X8_isSeen_45 rec8 S v2 (if y4 = y5 then 1 else 0)))
def L_X8_isSeen_8 : Nat → tg_S → Int32 → Int32 → Option (tg_S × Int32)
  | 0 => fun _ _ _ => none
  | n + 1 => f_X8_isSeen_8  (L_X8_isSeen_8  n)
def f_X8_isSeen (S : tg_S) : Option (tg_S × Int32) :=
  tg_bv (f_X8_runs S) fun S1 =>
  L_X8_isSeen_8 tg_F S1 1 0
-- X8_neverNow
def f_X8_neverNow_38 (rec8 : tg_S → Int32 → Int32 → Option (tg_S × Int32)) (S : tg_S) (v2 : Int32) (s0 : Int32) (s1 : Int32) : Option (tg_S × Int32) :=
  tg_nm (s1 ||| s0 : Int32) fun y1 =>
  tg_nm (v2 + 1 : Int32) fun y2 =>
  rec8 S y1 y2
def f_X8_neverNow_8 (rec8 : tg_S → Int32 → Int32 → Option (tg_S × Int32)) (S : tg_S) (v1 : Int32) (v2 : Int32) : Option (tg_S × Int32) :=
  tg_if ((S 0 9) ≤ v2)
    (some (S, v1))
    (tg_pf S 0 14 (1 <<< (v2 &&& 31)) fun S2 =>
      tg_bd (f_X8_isSeen S2) fun S3 r4 =>
      f_X8_neverNow_38 rec8 S3 v2 (if r4 = 0 then 0 else (1 <<< (v2 &&& 31))) v1)
def L_X8_neverNow_8 : Nat → tg_S → Int32 → Int32 → Option (tg_S × Int32)
  | 0 => fun _ _ _ => none
  | n + 1 => f_X8_neverNow_8  (L_X8_neverNow_8  n)
def f_X8_neverNow (S : tg_S) : Option (tg_S × Int32) :=
  tg_bv (f_X8_asTold S) fun S1 =>
  L_X8_neverNow_8 tg_F S1 0 0
-- X8_never
def f_X8_never (S : tg_S) : Option (tg_S × Int32) :=
  tg_bd (f_X8_neverNow S) fun S1 r2 =>
  some (S1, r2)
-- X8_weightsBy
def f_X8_weightsBy_52 (rec16 : tg_S → Int32 → Int32 → Int32 → Int32 → Option (tg_S × Int32)) (rec52 : tg_S → Int32 → Int32 → Int32 → Int32 → Int32 → Option (tg_S × Int32)) (S : tg_S) (v1 : Int32) (v2 : Int32) (v3 : Int32) (v4 : Int32) (v5 : Int32) : Option (tg_S × Int32) :=
  tg_if (24 ≤ v5)
    (tg_nm (v4 + 1 : Int32) fun y2 =>
      rec16 S v1 v2 v3 y2)
    (tg_rd S 19 24 v5 fun y3 =>
      tg_wr S 27 240 ((24 * v4) + v5) y3 fun S4 =>
      tg_nm (v5 + 1 : Int32) fun y5 =>
      rec52 S4 v1 v2 v3 v4 y5)
def L_X8_weightsBy_52 (rec16 : tg_S → Int32 → Int32 → Int32 → Int32 → Option (tg_S × Int32)) : Nat → tg_S → Int32 → Int32 → Int32 → Int32 → Int32 → Option (tg_S × Int32)
  | 0 => fun _ _ _ _ _ _ => none
  | n + 1 => f_X8_weightsBy_52 rec16 (L_X8_weightsBy_52 rec16 n)
def f_X8_weightsBy_47 (rec16 : tg_S → Int32 → Int32 → Int32 → Int32 → Option (tg_S × Int32)) (S : tg_S) (v1 : Int32) (v2 : Int32) (v4 : Int32) (s0 : Int32) (s1 : Int32) : Option (tg_S × Int32) :=
  tg_nm (s1 ||| s0 : Int32) fun y1 =>
  L_X8_weightsBy_52 rec16 tg_F S v1 v2 y1 v4 0
def f_X8_weightsBy_16 (rec16 : tg_S → Int32 → Int32 → Int32 → Int32 → Option (tg_S × Int32)) (S : tg_S) (v1 : Int32) (v2 : Int32) (v3 : Int32) (v4 : Int32) : Option (tg_S × Int32) :=
  tg_if (10 ≤ v4)
    (tg_wr S 5 17 v1 v2 fun S2 =>
      some (S2, v3))
    (tg_wr S 5 17 v1 v4 fun S3 =>
      tg_bd (f_X8_isSeen S3) fun S4 r5 =>
      f_X8_weightsBy_47 rec16 S4 v1 v2 v4 (if r5 = 0 then 0 else (1 <<< (v4 &&& 31))) v3)
def L_X8_weightsBy_16 : Nat → tg_S → Int32 → Int32 → Int32 → Int32 → Option (tg_S × Int32)
  | 0 => fun _ _ _ _ _ => none
  | n + 1 => f_X8_weightsBy_16  (L_X8_weightsBy_16  n)
def f_X8_weightsBy (S : tg_S) (v1 : Int32) : Option (tg_S × Int32) :=
  tg_bv (f_X8_asTold S) fun S1 =>
  tg_rd S1 5 17 v1 fun y2 =>
  L_X8_weightsBy_16 tg_F S1 v1 y2 0 1
-- X8_sortsBy
def f_X8_sortsBy_46 (rec16 : tg_S → Int32 → Int32 → Int32 → Int32 → Option (tg_S × Int32)) (S : tg_S) (v1 : Int32) (v2 : Int32) (v4 : Int32) (s0 : Int32) (s1 : Int32) : Option (tg_S × Int32) :=
  tg_nm (s1 ||| s0 : Int32) fun y1 =>
  tg_nm (v4 + 1 : Int32) fun y2 =>
  rec16 S v1 v2 y1 y2
def f_X8_sortsBy_16 (rec16 : tg_S → Int32 → Int32 → Int32 → Int32 → Option (tg_S × Int32)) (S : tg_S) (v1 : Int32) (v2 : Int32) (v3 : Int32) (v4 : Int32) : Option (tg_S × Int32) :=
  tg_if (3 ≤ v4)
    (tg_wr S 4 17 v1 v2 fun S2 =>
      some (S2, v3))
    (tg_wr S 4 17 v1 v4 fun S3 =>
      tg_bd (f_X8_isSeen S3) fun S4 r5 =>
      f_X8_sortsBy_46 rec16 S4 v1 v2 v4 (if r5 = 0 then 0 else (1 <<< (v4 &&& 31))) v3)
def L_X8_sortsBy_16 : Nat → tg_S → Int32 → Int32 → Int32 → Int32 → Option (tg_S × Int32)
  | 0 => fun _ _ _ _ _ => none
  | n + 1 => f_X8_sortsBy_16  (L_X8_sortsBy_16  n)
def f_X8_sortsBy (S : tg_S) (v1 : Int32) : Option (tg_S × Int32) :=
  tg_bv (f_X8_asTold S) fun S1 =>
  tg_rd S1 4 17 v1 fun y2 =>
  L_X8_sortsBy_16 tg_F S1 v1 y2 0 0
-- X8_was
def f_X8_was (S : tg_S) (v1 : Int32) (v2 : Int32) : Option (tg_S × Int32) :=
  tg_bd (f_X8_isPuller S v1) fun S1 r2 =>
  tg_if (r2 = 0)
    (some (S1, -2))
    (tg_bd (f_X8_isTwo S1 v2) fun S4 r5 =>
      tg_if (r5 = 0)
        (some (S4, -2))
        (tg_if (v2 = 0)
            (tg_bd (f_X8_weightsBy S4 v1) fun S10 r11 =>
              some (S10, r11))
            (tg_bd (f_X8_sortsBy S4 v1) fun S8 r9 =>
              some (S8, r9))))
-- X8_askOf
def f_X8_askOf_175 (rec14 : tg_S → Int32 → Int32 → Int32 → Int32 → Option (tg_S × Int32)) (S : tg_S) (v2 : Int32) (v3 : Int32) (v5 : Int32) (s0 : Int32) : Option (tg_S × Int32) :=
  tg_nm (v5 + 1 : Int32) fun y1 =>
  rec14 S v2 v3 s0 y1
def f_X8_askOf_162 (rec14 : tg_S → Int32 → Int32 → Int32 → Int32 → Option (tg_S × Int32)) (S : tg_S) (v2 : Int32) (v4 : Int32) (v5 : Int32) (v6 : Int32) (v7 : Int32) (s0 : Int32) : Option (tg_S × Int32) :=
  f_X8_askOf_175 rec14 S v2 s0 v5 (if v7 = 0 then v4 else v6)
def f_X8_askOf_149 (rec14 : tg_S → Int32 → Int32 → Int32 → Int32 → Option (tg_S × Int32)) (S : tg_S) (v2 : Int32) (v3 : Int32) (v4 : Int32) (v5 : Int32) (v6 : Int32) (s0 : Int32) : Option (tg_S × Int32) :=
  f_X8_askOf_162 rec14 S v2 v4 v5 v6 s0 (if s0 = 0 then v3 else v5)
def f_X8_askOf_144 (rec14 : tg_S → Int32 → Int32 → Int32 → Int32 → Option (tg_S × Int32)) (S : tg_S) (v2 : Int32) (v3 : Int32) (v4 : Int32) (v5 : Int32) (v6 : Int32) : Option (tg_S × Int32) :=
  f_X8_askOf_149 rec14 S v2 v3 v4 v5 v6 1
def f_X8_askOf_124 (rec14 : tg_S → Int32 → Int32 → Int32 → Int32 → Option (tg_S × Int32)) (rec27 : tg_S → Int32 → Int32 → Int32 → Int32 → Int32 → Int32 → Option (tg_S × Int32)) (S : tg_S) (v2 : Int32) (v3 : Int32) (v4 : Int32) (v5 : Int32) (v7 : Int32) (s0 : Int32) : Option (tg_S × Int32) :=
  tg_nm (v7 + 1 : Int32) fun y1 =>
  rec27 S v2 v3 v4 v5 s0 y1
def f_X8_askOf_101 (rec14 : tg_S → Int32 → Int32 → Int32 → Int32 → Option (tg_S × Int32)) (rec27 : tg_S → Int32 → Int32 → Int32 → Int32 → Int32 → Int32 → Option (tg_S × Int32)) (rec40 : tg_S → Int32 → Int32 → Int32 → Int32 → Int32 → Int32 → Int32 → Int32 → Option (tg_S × Int32)) (S : tg_S) (v2 : Int32) (v3 : Int32) (v4 : Int32) (v5 : Int32) (v6 : Int32) (v7 : Int32) (v9 : Int32) (s0 : Int32) (s1 : Int32) : Option (tg_S × Int32) :=
  tg_nm (s1 + s0 : Int32) fun y1 =>
  tg_nm (v9 + 1 : Int32) fun y2 =>
  rec40 S v2 v3 v4 v5 v6 v7 y1 y2
def f_X8_askOf_100 (rec14 : tg_S → Int32 → Int32 → Int32 → Int32 → Option (tg_S × Int32)) (rec27 : tg_S → Int32 → Int32 → Int32 → Int32 → Int32 → Int32 → Option (tg_S × Int32)) (rec40 : tg_S → Int32 → Int32 → Int32 → Int32 → Int32 → Int32 → Int32 → Int32 → Option (tg_S × Int32)) (S : tg_S) (v2 : Int32) (v3 : Int32) (v4 : Int32) (v5 : Int32) (v6 : Int32) (v7 : Int32) (v9 : Int32) (s0 : Int32) : Option (tg_S × Int32) :=
  f_X8_askOf_101 rec14 rec27 rec40 S v2 v3 v4 v5 v6 v7 v9 0 s0
def f_X8_askOf_40 (rec14 : tg_S → Int32 → Int32 → Int32 → Int32 → Option (tg_S × Int32)) (rec27 : tg_S → Int32 → Int32 → Int32 → Int32 → Int32 → Int32 → Option (tg_S × Int32)) (rec40 : tg_S → Int32 → Int32 → Int32 → Int32 → Int32 → Int32 → Int32 → Int32 → Option (tg_S × Int32)) (S : tg_S) (v2 : Int32) (v3 : Int32) (v4 : Int32) (v5 : Int32) (v6 : Int32) (v7 : Int32) (v8 : Int32) (v9 : Int32) : Option (tg_S × Int32) :=
  tg_if (10 ≤ v9)
    (f_X8_askOf_124 rec14 rec27 S v2 v3 v4 v5 v7 (if v8 ≤ v6 then v6 else v8))
    (tg_bd (f_X8_isIn S v2 v7) fun S3 r4 =>
      tg_if (r4 = 0)
        (f_X8_askOf_100 rec14 rec27 rec40 S3 v2 v3 v4 v5 v6 v7 v9 v8)
        (tg_bd (f_X8_isIn S3 v2 v9) fun S6 r7 =>
          tg_if (r7 = 0)
            (f_X8_askOf_100 rec14 rec27 rec40 S6 v2 v3 v4 v5 v6 v7 v9 v8)
            (tg_rd S6 27 240 ((24 * v7) + v5) fun y9 =>
              tg_rd S6 27 240 ((24 * v9) + v5) fun y10 =>
              tg_if (y9 = y10)
                (f_X8_askOf_101 rec14 rec27 rec40 S6 v2 v3 v4 v5 v6 v7 v9 1 v8)
                (f_X8_askOf_100 rec14 rec27 rec40 S6 v2 v3 v4 v5 v6 v7 v9 v8))))
def L_X8_askOf_40 (rec14 : tg_S → Int32 → Int32 → Int32 → Int32 → Option (tg_S × Int32)) (rec27 : tg_S → Int32 → Int32 → Int32 → Int32 → Int32 → Int32 → Option (tg_S × Int32)) : Nat → tg_S → Int32 → Int32 → Int32 → Int32 → Int32 → Int32 → Int32 → Int32 → Option (tg_S × Int32)
  | 0 => fun _ _ _ _ _ _ _ _ _ => none
  | n + 1 => f_X8_askOf_40 rec14 rec27 (L_X8_askOf_40 rec14 rec27 n)
def f_X8_askOf_27 (rec14 : tg_S → Int32 → Int32 → Int32 → Int32 → Option (tg_S × Int32)) (rec27 : tg_S → Int32 → Int32 → Int32 → Int32 → Int32 → Int32 → Option (tg_S × Int32)) (S : tg_S) (v2 : Int32) (v3 : Int32) (v4 : Int32) (v5 : Int32) (v6 : Int32) (v7 : Int32) : Option (tg_S × Int32) :=
  tg_if (10 ≤ v7)
    (tg_if (v3 = (-1))
        (f_X8_askOf_144 rec14 S v2 v3 v4 v5 v6)
        (tg_if (v4 ≤ v6)
            (f_X8_askOf_149 rec14 S v2 v3 v4 v5 v6 0)
            (f_X8_askOf_144 rec14 S v2 v3 v4 v5 v6)))
    (L_X8_askOf_40 rec14 rec27 tg_F S v2 v3 v4 v5 v6 v7 0 1)
def L_X8_askOf_27 (rec14 : tg_S → Int32 → Int32 → Int32 → Int32 → Option (tg_S × Int32)) : Nat → tg_S → Int32 → Int32 → Int32 → Int32 → Int32 → Int32 → Option (tg_S × Int32)
  | 0 => fun _ _ _ _ _ _ _ => none
  | n + 1 => f_X8_askOf_27 rec14 (L_X8_askOf_27 rec14 n)
def f_X8_askOf_14 (rec14 : tg_S → Int32 → Int32 → Int32 → Int32 → Option (tg_S × Int32)) (S : tg_S) (v2 : Int32) (v3 : Int32) (v4 : Int32) (v5 : Int32) : Option (tg_S × Int32) :=
  tg_if (24 ≤ v5)
    (some (S, v3))
    (L_X8_askOf_27 rec14 tg_F S v2 v3 v4 v5 0 1)
def L_X8_askOf_14 : Nat → tg_S → Int32 → Int32 → Int32 → Int32 → Option (tg_S × Int32)
  | 0 => fun _ _ _ _ _ => none
  | n + 1 => f_X8_askOf_14  (L_X8_askOf_14  n)
def f_X8_askOf (S : tg_S) (v1 : Int32) : Option (tg_S × Int32) :=
  tg_bd (f_X8_weightsBy S v1) fun S1 r2 =>
  tg_nm (-1 : Int32) fun y3 =>
  L_X8_askOf_14 tg_F S1 r2 y3 0 0
-- X8_ask
def f_X8_ask (S : tg_S) (v1 : Int32) : Option (tg_S × Int32) :=
  tg_bd (f_X8_isPuller S v1) fun S1 r2 =>
  tg_if (r2 = 0)
    (some (S1, -2))
    (tg_bd (f_X8_askOf S1 v1) fun S4 r5 =>
      some (S4, r5))
-- X8_chanceOf
def f_X8_chanceOf_103 (rec10 : tg_S → Int32 → Int32 → Int32 → Int64 → Int32 → Option (tg_S × Int64)) (S : tg_S) (v1 : Int32) (v2 : Int32) (v3 : Int32) (v4 : Int64) (v6 : Int32) : Option (tg_S × Int64) :=
  tg_nm (v6 + 1 : Int32) fun y1 =>
  rec10 S v1 v2 v3 v4 y1
def f_X8_chanceOf_100 (rec10 : tg_S → Int32 → Int32 → Int32 → Int64 → Int32 → Option (tg_S × Int64)) (S : tg_S) (v1 : Int32) (v2 : Int32) (v3 : Int32) (v6 : Int32) (s0 : Int64) (s1 : Int64) : Option (tg_S × Int64) :=
  tg_nm (s1 + s0 : Int64) fun y1 =>
  f_X8_chanceOf_103 rec10 S v1 v2 v3 y1 v6
def f_X8_chanceOf_58 (rec10 : tg_S → Int32 → Int32 → Int32 → Int64 → Int32 → Option (tg_S × Int64)) (rec27 : tg_S → Int32 → Int32 → Int32 → Int64 → Int32 → Int64 → Int32 → Option (tg_S × Int64)) (S : tg_S) (v1 : Int32) (v2 : Int32) (v3 : Int32) (v4 : Int64) (v6 : Int32) (v9 : Int32) (s0 : Int64) (s1 : Int64) : Option (tg_S × Int64) :=
  tg_nm (s1 * s0 : Int64) fun y1 =>
  tg_nm (v9 + 1 : Int32) fun y2 =>
  rec27 S v1 v2 v3 v4 v6 y1 y2
def f_X8_chanceOf_27 (rec10 : tg_S → Int32 → Int32 → Int32 → Int64 → Int32 → Option (tg_S × Int64)) (rec27 : tg_S → Int32 → Int32 → Int32 → Int64 → Int32 → Int64 → Int32 → Option (tg_S × Int64)) (S : tg_S) (v1 : Int32) (v2 : Int32) (v3 : Int32) (v4 : Int64) (v6 : Int32) (v7 : Int64) (v9 : Int32) : Option (tg_S × Int64) :=
  tg_if ((S 0 9) ≤ v9)
    (tg_if ((lg_cmp v7 0) ≤ 0)
        (f_X8_chanceOf_103 rec10 S v1 v2 v3 v4 v6)
        (tg_pf S 0 14 v6 fun S3 =>
          tg_bv (f_X8_runs S3) fun S4 =>
          f_X8_chanceOf_100 rec10 S4 v1 v2 v3 v6 (if (S4 0 22) = v2 then v7 else 0) v4))
    (tg_bd (f_X8_isIn S v6 v9) fun S6 r7 =>
      f_X8_chanceOf_58 rec10 rec27 S6 v1 v2 v3 v4 v6 v9 (if r7 = 0 then (v1.toInt64) else ((16 - v1).toInt64)) v7)
def L_X8_chanceOf_27 (rec10 : tg_S → Int32 → Int32 → Int32 → Int64 → Int32 → Option (tg_S × Int64)) : Nat → tg_S → Int32 → Int32 → Int32 → Int64 → Int32 → Int64 → Int32 → Option (tg_S × Int64)
  | 0 => fun _ _ _ _ _ _ _ _ => none
  | n + 1 => f_X8_chanceOf_27 rec10 (L_X8_chanceOf_27 rec10 n)
def f_X8_chanceOf_10 (rec10 : tg_S → Int32 → Int32 → Int32 → Int64 → Int32 → Option (tg_S × Int64)) (S : tg_S) (v1 : Int32) (v2 : Int32) (v3 : Int32) (v4 : Int64) (v6 : Int32) : Option (tg_S × Int64) :=
  tg_if ((1 <<< ((S 0 9) &&& 31)) ≤ v6)
    (tg_bd (f_X8_lowest S v4 (1 <<< ((4 * (S 0 9) : Int32).toInt64 &&& 63)) v3) fun S2 r3 =>
      some (S2, r3))
    (L_X8_chanceOf_27 rec10 tg_F S v1 v2 v3 v4 v6 1 0)
def L_X8_chanceOf_10 : Nat → tg_S → Int32 → Int32 → Int32 → Int64 → Int32 → Option (tg_S × Int64)
  | 0 => fun _ _ _ _ _ _ => none
  | n + 1 => f_X8_chanceOf_10  (L_X8_chanceOf_10  n)
def f_X8_chanceOf (S : tg_S) (v1 : Int32) (v2 : Int32) (v3 : Int32) : Option (tg_S × Int64) :=
  tg_bv (f_X8_asTold S) fun S1 =>
  L_X8_chanceOf_10 tg_F S1 v1 v2 v3 0 0
-- X8_chance
def f_X8_chance (S : tg_S) (v1 : Int32) (v2 : Int32) (v3 : Int32) : Option (tg_S × Int64) :=
  tg_bd (f_X8_in S v1 0 16) fun S1 r2 =>
  tg_if (r2 = 0)
    (tg_bd (f_X8_no S1 (-2)) fun S4 r5 =>
      some (S4, r5))
    (tg_bd (f_X8_isTwo S1 v2) fun S6 r7 =>
      tg_if (r7 = 0)
        (tg_bd (f_X8_no S6 (-2)) fun S9 r10 =>
          some (S9, r10))
        (tg_bd (f_X8_isTwo S6 v3) fun S11 r12 =>
          tg_if (r12 = 0)
            (tg_bd (f_X8_no S11 (-2)) fun S14 r15 =>
              some (S14, r15))
            (tg_bd (f_X8_chanceOf S11 v1 v2 v3) fun S16 r17 =>
              some (S16, r17))))
-- X8_yearsOf
def f_X8_yearsOf_66 (rec10 : tg_S → Int32 → Int32 → Int32 → Int32 → Option (tg_S × Int32)) (S : tg_S) (v2 : Int32) (v3 : Int32) (v4 : Int32) (v5 : Int32) (s0 : Int32) (s1 : Int32) : Option (tg_S × Int32) :=
  tg_wr S 12 48 s1 s0 fun S1 =>
  tg_nm (v5 + 1 : Int32) fun y2 =>
  rec10 S1 v2 v3 v4 y2
def f_X8_yearsOf_38 (rec10 : tg_S → Int32 → Int32 → Int32 → Int32 → Option (tg_S × Int32)) (S : tg_S) (v2 : Int32) (v3 : Int32) (v5 : Int32) (s0 : Int32) : Option (tg_S × Int32) :=
  f_X8_yearsOf_66 rec10 S v2 v3 s0 v5 (if v2 ≤ v5 then 1 else ((((s0).toUInt32 >>> ((16 : Int32).toUInt32 &&& Int32.toUInt32 31)).toInt32) - (((s0).toUInt32 >>> ((16 : Int32).toUInt32 &&& Int32.toUInt32 31)).toInt32) / 3 * 3)) (24 + v5)
def f_X8_yearsOf_10 (rec10 : tg_S → Int32 → Int32 → Int32 → Int32 → Option (tg_S × Int32)) (S : tg_S) (v2 : Int32) (v3 : Int32) (v4 : Int32) (v5 : Int32) : Option (tg_S × Int32) :=
  tg_if (24 ≤ v5)
    (tg_bv (f_X8_runs S) fun S2 =>
      tg_if (v3 = 0)
        (some (S2, S2 0 21))
        (some (S2, S2 0 22)))
    (f_X8_yearsOf_38 rec10 S v2 v3 v5 (if v2 ≤ v5 then v4 else ((1103515245 * v4) + 12345)))
def L_X8_yearsOf_10 : Nat → tg_S → Int32 → Int32 → Int32 → Int32 → Option (tg_S × Int32)
  | 0 => fun _ _ _ _ _ => none
  | n + 1 => f_X8_yearsOf_10  (L_X8_yearsOf_10  n)
def f_X8_yearsOf (S : tg_S) (v1 : Int32) (v2 : Int32) (v3 : Int32) : Option (tg_S × Int32) :=
  tg_bv (f_X8_asTold S) fun S1 =>
  L_X8_yearsOf_10 tg_F S1 v2 v3 v1 0
-- X8_years
def f_X8_years (S : tg_S) (v1 : Int32) (v2 : Int32) (v3 : Int32) : Option (tg_S × Int32) :=
  tg_bd (f_X8_in S v2 0 24) fun S1 r2 =>
  tg_if (r2 = 0)
    (some (S1, -2))
    (tg_bd (f_X8_isTwo S1 v3) fun S4 r5 =>
      tg_if (r5 = 0)
        (some (S4, -2))
        (tg_bd (f_X8_yearsOf S4 v1 v2 v3) fun S7 r8 =>
          some (S7, r8)))
-- X8_sheet
def f_X8_sheet_59 (rec59 : tg_S → Int32 → Int32 → Int32 → Option (tg_S × Int32)) (S : tg_S) (v1 : Int32) (v3 : Int32) (v4 : Int32) : Option (tg_S × Int32) :=
  tg_if (60 ≤ v4)
    (some (S, v3))
    (tg_wr S 31 240 ((60 * v1) + v4) 0 fun S2 =>
      tg_nm (v4 + 1 : Int32) fun y3 =>
      rec59 S2 v1 v3 y3)
def L_X8_sheet_59 : Nat → tg_S → Int32 → Int32 → Int32 → Option (tg_S × Int32)
  | 0 => fun _ _ _ _ => none
  | n + 1 => f_X8_sheet_59  (L_X8_sheet_59  n)
def f_X8_sheet (S : tg_S) (v1 : Int32) (v2 : Int32) (v3 : Int32) : Option (tg_S × Int32) :=
  tg_bd (f_X8_isSheet S v1) fun S1 r2 =>
  tg_if (r2 = 0)
    (some (S1, -2))
    (tg_bd (f_X8_in S1 v2 0 2) fun S4 r5 =>
      tg_if (r5 = 0)
        (some (S4, -2))
        (tg_if (v3 ≤ 60)
            (tg_if (0 ≤ v3)
                (tg_wz S4 28 4 v1 1 fun S9 =>
                  tg_wr S9 29 4 v1 v2 fun S10 =>
                  tg_wr S10 30 4 v1 v3 fun S11 =>
                  L_X8_sheet_59 tg_F S11 v1 v3 0)
                (tg_bd (f_X8_meets S4 5) fun S12 r13 =>
                  some (S12, r13)))
            (some (S4, -2))))
-- X8_lose
def f_X8_lose (S : tg_S) (v1 : Int32) : Option (tg_S × Int32) :=
  tg_bd (f_X8_isSheet S v1) fun S1 r2 =>
  tg_if (r2 = 0)
    (some (S1, -2))
    (tg_rd S1 28 4 v1 fun y4 =>
      tg_if (y4 = 0)
        (tg_bd (f_X8_meets S1 1) fun S8 r9 =>
          some (S8, r9))
        (tg_wz S1 28 4 v1 0 fun S6 =>
          tg_rd S6 30 4 v1 fun y7 =>
          some (S6, y7)))
-- X8_lacks
def f_X8_lacks (S : tg_S) (v1 : Int32) (v2 : Int32) (v3 : Int32) : Option (tg_S × Int32) :=
  tg_rd S 28 4 v1 fun y1 =>
  tg_if (y1 = 0)
    (some (S, 1))
    (tg_rd S 29 4 v1 fun y3 =>
      tg_if (y3 = v2)
        (tg_rd S 30 4 v1 fun y5 =>
          tg_bd (f_X8_in S v3 0 (y5 - 1)) fun S6 r7 =>
          tg_if (r7 = 0)
            (some (S6, 2))
            (some (S6, 0)))
        (some (S, 3)))
-- X8_keep
def f_X8_keep (S : tg_S) (v1 : Int32) (v2 : Int32) (v3 : Int32) : Option (tg_S) :=
  tg_rd S 29 4 v1 fun y1 =>
  tg_if (y1 = 0)
    (tg_wr S 31 240 ((60 * v1) + v2) (v3.toInt8.toInt32) fun S7 =>
      some S7)
    (tg_rd S 29 4 v1 fun y3 =>
      tg_if (y3 = 1)
        (tg_wr S 31 240 ((60 * v1) + v2) (v3.toInt16.toInt32) fun S6 =>
          some S6)
        (tg_wr S 31 240 ((60 * v1) + v2) v3 fun S5 =>
          some S5))
-- X8_put
def f_X8_put (S : tg_S) (v1 : Int32) (v2 : Int32) (v3 : Int32) (v4 : Int32) : Option (tg_S × Int32) :=
  tg_bd (f_X8_isSheet S v1) fun S1 r2 =>
  tg_if (r2 = 0)
    (some (S1, -2))
    (tg_bd (f_X8_in S1 v2 0 2) fun S4 r5 =>
      tg_if (r5 = 0)
        (some (S4, -2))
        (tg_bd (f_X8_lacks S4 v1 v2 v3) fun S7 r8 =>
          tg_if (r8 ≤ 0)
            (tg_bv (f_X8_keep S7 v1 v3 v4) fun S10 =>
              some (S10, 1))
            (tg_bd (f_X8_meets S7 r8) fun S11 r12 =>
              some (S11, r12))))
-- X8_get
def f_X8_get (S : tg_S) (v1 : Int32) (v2 : Int32) (v3 : Int32) : Option (tg_S × Int32) :=
  tg_bd (f_X8_isSheet S v1) fun S1 r2 =>
  tg_if (r2 = 0)
    (some (S1, -2147483648))
    (tg_bd (f_X8_in S1 v2 0 2) fun S4 r5 =>
      tg_if (r5 = 0)
        (some (S4, -2147483648))
        (tg_bd (f_X8_lacks S4 v1 v2 v3) fun S7 r8 =>
          tg_if (r8 ≤ 0)
            (tg_rd S7 31 240 ((60 * v1) + v3) fun y10 =>
              some (S7, y10))
            (tg_pf S7 0 46 r8 fun S11 =>
              some (S11, -2147483648))))
-- X8_copy
def f_X8_copy_157 (rec157 : tg_S → Int32 → Int32 → Int32 → Int32 → Option (tg_S × Int32)) (S : tg_S) (v3 : Int32) (v4 : Int32) (v5 : Int32) (v6 : Int32) : Option (tg_S × Int32) :=
  tg_if (v5 ≤ v6)
    (some (S, 1))
    (tg_rd S 32 60 v6 fun y2 =>
      tg_wr S 31 240 (((60 * v3) + v4) + v6) y2 fun S3 =>
      tg_nm (v6 + 1 : Int32) fun y4 =>
      rec157 S3 v3 v4 v5 y4)
def L_X8_copy_157 : Nat → tg_S → Int32 → Int32 → Int32 → Int32 → Option (tg_S × Int32)
  | 0 => fun _ _ _ _ _ => none
  | n + 1 => f_X8_copy_157  (L_X8_copy_157  n)
def f_X8_copy_120 (rec120 : tg_S → Int32 → Int32 → Int32 → Int32 → Int32 → Int32 → Option (tg_S × Int32)) (S : tg_S) (v1 : Int32) (v2 : Int32) (v3 : Int32) (v4 : Int32) (v5 : Int32) (v6 : Int32) : Option (tg_S × Int32) :=
  tg_if (v5 ≤ v6)
    (L_X8_copy_157 tg_F S v3 v4 v5 0)
    (tg_rd S 31 240 (((60 * v1) + v2) + v6) fun y2 =>
      tg_wr S 32 60 v6 y2 fun S3 =>
      tg_nm (v6 + 1 : Int32) fun y4 =>
      rec120 S3 v1 v2 v3 v4 v5 y4)
def L_X8_copy_120 : Nat → tg_S → Int32 → Int32 → Int32 → Int32 → Int32 → Int32 → Option (tg_S × Int32)
  | 0 => fun _ _ _ _ _ _ _ => none
  | n + 1 => f_X8_copy_120  (L_X8_copy_120  n)
def f_X8_copy_111 (S : tg_S) : Option (tg_S × Int32) :=
  tg_bd (f_X8_meets S 2) fun S1 r2 =>
  some (S1, r2)
def f_X8_copy_35 (S : tg_S) : Option (tg_S × Int32) :=
  tg_bd (f_X8_meets S 1) fun S1 r2 =>
  some (S1, r2)
def f_X8_copy (S : tg_S) (v1 : Int32) (v2 : Int32) (v3 : Int32) (v4 : Int32) (v5 : Int32) : Option (tg_S × Int32) :=
  tg_bd (f_X8_isSheet S v1) fun S1 r2 =>
  tg_if (r2 = 0)
    (some (S1, -2))
    (tg_bd (f_X8_isSheet S1 v3) fun S4 r5 =>
      tg_if (r5 = 0)
        (some (S4, -2))
        (tg_rd S4 28 4 v1 fun y7 =>
          tg_if (y7 = 0)
            (f_X8_copy_35 S4)
            (tg_rd S4 28 4 v3 fun y9 =>
              tg_if (y9 = 0)
                (f_X8_copy_35 S4)
                (tg_rd S4 29 4 v1 fun y11 =>
                  tg_rd S4 29 4 v3 fun y12 =>
                  tg_if (y11 = y12)
                    (tg_if (v2 < 0)
                        (f_X8_copy_111 S4)
                        (tg_if (v4 < 0)
                            (f_X8_copy_111 S4)
                            (tg_if (v5 < 0)
                                (f_X8_copy_111 S4)
                                (tg_rd S4 30 4 v1 fun y17 =>
                                  tg_if (0 < (lg_cmp ((v2.toInt64) + (v5.toInt64)) (y17.toInt64)))
                                    (f_X8_copy_111 S4)
                                    (tg_rd S4 30 4 v3 fun y19 =>
                                      tg_if ((lg_cmp ((v4.toInt64) + (v5.toInt64)) (y19.toInt64)) ≤ 0)
                                        (L_X8_copy_120 tg_F S4 v1 v2 v3 v4 v5 0)
                                        (f_X8_copy_111 S4))))))
                    (tg_bd (f_X8_meets S4 4) fun S21 r22 =>
                      some (S21, r22))))))
-- X8_write
def f_X8_write_31 (rec31 : tg_S → Int32 → Int32 → Option (tg_S × Int32)) (S : tg_S) (v1 : Int32) (v2 : Int32) : Option (tg_S × Int32) :=
  tg_rd S 30 4 v1 fun y1 =>
  tg_if (y1 ≤ v2)
    (some (S, v2))
    (tg_if (24 ≤ v2)
        (some (S, v2))
        (tg_rd S 19 24 v2 fun y4 =>
          tg_bv (f_X8_keep S v1 v2 y4) fun S5 =>
          tg_nm (v2 + 1 : Int32) fun y6 =>
          rec31 S5 v1 y6))
def L_X8_write_31 : Nat → tg_S → Int32 → Int32 → Option (tg_S × Int32)
  | 0 => fun _ _ _ => none
  | n + 1 => f_X8_write_31  (L_X8_write_31  n)
def f_X8_write (S : tg_S) (v1 : Int32) : Option (tg_S × Int32) :=
  tg_bd (f_X8_isSheet S v1) fun S1 r2 =>
  tg_if (r2 = 0)
    (some (S1, -2))
    (tg_rd S1 28 4 v1 fun y4 =>
      tg_if (y4 = 0)
        (tg_bd (f_X8_meets S1 1) fun S7 r8 =>
          some (S7, r8))
        (tg_bv (f_X8_runsTold S1) fun S6 =>
          L_X8_write_31 tg_F S6 v1 0))
-- X8_tellOf
def f_X8_tellOf (S : tg_S) (v1 : Int32) : Option (tg_S × Int32) :=
  tg_bv (f_X8_runsTold S) fun S1 =>
  tg_if (2 ≤ v1)
    (tg_if (4 ≤ v1)
        (some (S1, S1 0 21))
        (tg_rd S1 7 2 (v1 - 2) fun y4 =>
          some (S1, y4)))
    (tg_rd S1 3 2 v1 fun y5 =>
      some (S1, y5))
-- X8_count
def f_X8_count (S : tg_S) (v1 : Int32) : Option (tg_S × Int32) :=
  tg_if (v1 = 0)
    (tg_bd (f_X8_tellOf S v1) fun S2 r3 =>
      some (S2, r3))
    (tg_if (v1 = 1)
        (tg_bd (f_X8_tellOf S v1) fun S5 r6 =>
          some (S5, r6))
        (tg_if (v1 = 2)
            (tg_bd (f_X8_tellOf S v1) fun S8 r9 =>
              some (S8, r9))
            (tg_if (v1 = 3)
                (tg_bd (f_X8_tellOf S v1) fun S11 r12 =>
                  some (S11, r12))
                (tg_if (v1 = 4)
                    (tg_rd S 1 4 0 fun y14 =>
                      tg_rd S 1 4 1 fun y15 =>
                      tg_rd S 1 4 2 fun y16 =>
                      tg_rd S 1 4 3 fun y17 =>
                      some (S, ((y14 + y15) + y16) + y17))
                    (tg_if (v1 = 5)
                        (some (S, S 0 9))
                        (tg_if (v1 = 6)
                            (tg_bd (f_X8_tellOf S v1) fun S20 r21 =>
                              some (S20, r21))
                            (tg_if (v1 = 7)
                                (some (S, S 0 37))
                                (tg_if (v1 = 8)
                                    (some (S, S 0 46))
                                    (some (S, -2))))))))))
-- X8_beatDigest
def f_X8_beatDigest (S : tg_S) (v1 : Int64) (v3 : Int32) (v4 : Int32) : Option (tg_S × Int64) :=
  tg_bd (f_X8_atOf S v3 v4 0) fun S1 r2 =>
  tg_nm ((31 * v1) + (r2.toInt64) : Int64) fun y3 =>
  tg_bd (f_X8_atOf S1 v3 v4 1) fun S4 r5 =>
  some (S4, (31 * y3) + (r5.toInt64))
-- X8_pullerDigest
def f_X8_pullerDigest_6 (rec6 : tg_S → Int32 → Int64 → Int32 → Option (tg_S × Int64)) (S : tg_S) (v3 : Int32) (v4 : Int64) (v6 : Int32) : Option (tg_S × Int64) :=
  tg_if (3 ≤ v6)
    (tg_bd (f_X8_beatDigest S v4 0 v3) fun S2 r3 =>
      tg_bd (f_X8_beatDigest S2 r3 5 v3) fun S4 r5 =>
      tg_bd (f_X8_beatDigest S4 r5 12 v3) fun S6 r7 =>
      tg_bd (f_X8_beatDigest S6 r7 23 v3) fun S8 r9 =>
      tg_bd (f_X8_doneOf S8 v3) fun S10 r11 =>
      tg_nm ((31 * r9) + (r11.toInt64) : Int64) fun y12 =>
      tg_bd (f_X8_weightsBy S10 v3) fun S13 r14 =>
      tg_nm ((31 * y12) + (r14.toInt64) : Int64) fun y15 =>
      tg_bd (f_X8_sortsBy S13 v3) fun S16 r17 =>
      tg_nm ((31 * y15) + (r17.toInt64) : Int64) fun y18 =>
      tg_bd (f_X8_askOf S16 v3) fun S19 r20 =>
      some (S19, (31 * y18) + (r20.toInt64)))
    (tg_bd (f_X8_pullerOf S v3 v6) fun S21 r22 =>
      tg_nm ((31 * v4) + (r22.toInt64) : Int64) fun y23 =>
      tg_nm (v6 + 1 : Int32) fun y24 =>
      rec6 S21 v3 y23 y24)
def L_X8_pullerDigest_6 : Nat → tg_S → Int32 → Int64 → Int32 → Option (tg_S × Int64)
  | 0 => fun _ _ _ _ => none
  | n + 1 => f_X8_pullerDigest_6  (L_X8_pullerDigest_6  n)
def f_X8_pullerDigest (S : tg_S) (v1 : Int64) (v3 : Int32) : Option (tg_S × Int64) :=
  L_X8_pullerDigest_6 tg_F S v3 v1 0
-- X8_teamDigest
def f_X8_teamDigest_36 (rec36 : tg_S → Int32 → Int64 → Int32 → Option (tg_S × Int64)) (S : tg_S) (v3 : Int32) (v4 : Int64) (v6 : Int32) : Option (tg_S × Int64) :=
  tg_if (3 ≤ v6)
    (tg_bd (f_X8_outOf S v3 0) fun S2 r3 =>
      tg_nm ((31 * v4) + (r3.toInt64) : Int64) fun y4 =>
      tg_bd (f_X8_outOf S2 v3 1) fun S5 r6 =>
      tg_nm ((31 * y4) + (r6.toInt64) : Int64) fun y7 =>
      tg_bd (f_X8_chanceOf S5 5 v3 0) fun S8 r9 =>
      tg_nm ((31 * y7) + r9 : Int64) fun y10 =>
      tg_bd (f_X8_chanceOf S8 5 v3 1) fun S11 r12 =>
      some (S11, (31 * y10) + r12))
    (tg_bd (f_X8_swapOf S v3 v6) fun S13 r14 =>
      tg_nm ((31 * v4) + (r14.toInt64) : Int64) fun y15 =>
      tg_nm (v6 + 1 : Int32) fun y16 =>
      rec36 S13 v3 y15 y16)
def L_X8_teamDigest_36 : Nat → tg_S → Int32 → Int64 → Int32 → Option (tg_S × Int64)
  | 0 => fun _ _ _ _ => none
  | n + 1 => f_X8_teamDigest_36  (L_X8_teamDigest_36  n)
def f_X8_teamDigest (S : tg_S) (v1 : Int64) (v3 : Int32) : Option (tg_S × Int64) :=
  tg_bd (f_X8_betterOf S v3 4 0) fun S1 r2 =>
  tg_nm ((31 * v1) + (r2.toInt64) : Int64) fun y3 =>
  tg_bd (f_X8_betterOf S1 v3 4 1) fun S4 r5 =>
  tg_nm ((31 * y3) + (r5.toInt64) : Int64) fun y6 =>
  L_X8_teamDigest_36 tg_F S4 v3 y6 0
-- X8_digest
def f_X8_digest_152 (rec131 : tg_S → Int64 → Int32 → Option (tg_S × Int64)) (S : tg_S) (v1 : Int64) (v3 : Int32) : Option (tg_S × Int64) :=
  tg_nm (v3 + 1 : Int32) fun y1 =>
  rec131 S v1 y1
def f_X8_digest_131 (rec131 : tg_S → Int64 → Int32 → Option (tg_S × Int64)) (S : tg_S) (v1 : Int64) (v3 : Int32) : Option (tg_S × Int64) :=
  tg_if (16 ≤ v3)
    (tg_bd (f_X8_teamDigest S v1 0) fun S2 r3 =>
      tg_bd (f_X8_teamDigest S2 r3 1) fun S4 r5 =>
      tg_bd (f_X8_wonOf S4 0) fun S6 r7 =>
      tg_nm ((31 * r5) + (r7.toInt64) : Int64) fun y8 =>
      tg_bd (f_X8_wonOf S6 1) fun S9 r10 =>
      tg_nm ((31 * y8) + (r10.toInt64) : Int64) fun y11 =>
      tg_bd (f_X8_furthestOf S9 0) fun S12 r13 =>
      tg_nm ((31 * y11) + (r13.toInt64) : Int64) fun y14 =>
      tg_bd (f_X8_furthestOf S12 1) fun S15 r16 =>
      tg_nm ((31 * y14) + (r16.toInt64) : Int64) fun y17 =>
      tg_bd (f_X8_spentOf S15) fun S18 r19 =>
      tg_nm ((31 * y17) + (r19.toInt64) : Int64) fun y20 =>
      tg_bd (f_X8_bestOf S18) fun S21 r22 =>
      tg_nm ((31 * y20) + (r22.toInt64) : Int64) fun y23 =>
      tg_bd (f_X8_levelOf S21) fun S24 r25 =>
      tg_nm ((31 * y23) + (r25.toInt64) : Int64) fun y26 =>
      tg_bd (f_X8_spareBy S24) fun S27 r28 =>
      tg_nm ((31 * y26) + (r28.toInt64) : Int64) fun y29 =>
      tg_bd (f_X8_ofRow S27 r28 0) fun S30 r31 =>
      tg_nm ((31 * y29) + (r31.toInt64) : Int64) fun y32 =>
      tg_bd (f_X8_neverNow S30) fun S33 r34 =>
      tg_nm ((31 * y32) + (r34.toInt64) : Int64) fun y35 =>
      tg_bd (f_X8_yearsOf S33 7 18 0) fun S36 r37 =>
      tg_nm ((31 * y35) + (r37.toInt64) : Int64) fun y38 =>
      tg_bd (f_X8_yearsOf S36 7 18 1) fun S39 r40 =>
      some (S39, (31 * y38) + (r40.toInt64)))
    (tg_bd (f_X8_isThereOne S v3) fun S41 r42 =>
      tg_if (r42 = 0)
        (f_X8_digest_152 rec131 S41 v1 v3)
        (tg_bd (f_X8_pullerDigest S41 v1 v3) fun S44 r45 =>
          f_X8_digest_152 rec131 S44 r45 v3))
def L_X8_digest_131 : Nat → tg_S → Int64 → Int32 → Option (tg_S × Int64)
  | 0 => fun _ _ _ => none
  | n + 1 => f_X8_digest_131  (L_X8_digest_131  n)
def f_X8_digest_96 (rec59 : tg_S → Int64 → Int32 → Option (tg_S × Int64)) (rec96 : tg_S → Int64 → Int32 → Int32 → Option (tg_S × Int64)) (S : tg_S) (v1 : Int64) (v3 : Int32) (v4 : Int32) : Option (tg_S × Int64) :=
  tg_if (4 ≤ v4)
    (tg_nm (v3 + 1 : Int32) fun y2 =>
      rec59 S v1 y2)
    (tg_bd (f_X8_ropeOf S v3 v4) fun S3 r4 =>
      tg_nm ((31 * v1) + (r4.toInt64) : Int64) fun y5 =>
      tg_nm (v4 + 1 : Int32) fun y6 =>
      rec96 S3 y5 v3 y6)
def L_X8_digest_96 (rec59 : tg_S → Int64 → Int32 → Option (tg_S × Int64)) : Nat → tg_S → Int64 → Int32 → Int32 → Option (tg_S × Int64)
  | 0 => fun _ _ _ _ => none
  | n + 1 => f_X8_digest_96 rec59 (L_X8_digest_96 rec59 n)
def f_X8_digest_59 (rec59 : tg_S → Int64 → Int32 → Option (tg_S × Int64)) (S : tg_S) (v1 : Int64) (v3 : Int32) : Option (tg_S × Int64) :=
  tg_if (24 ≤ v3)
    (L_X8_digest_131 tg_F S v1 0)
    (tg_bd (f_X8_callOf S 0 v3) fun S2 r3 =>
      tg_nm ((31 * v1) + (r3.toInt64) : Int64) fun y4 =>
      tg_bd (f_X8_callOf S2 1 v3) fun S5 r6 =>
      tg_nm ((31 * y4) + (r6.toInt64) : Int64) fun y7 =>
      L_X8_digest_96 rec59 tg_F S5 y7 v3 0)
def L_X8_digest_59 : Nat → tg_S → Int64 → Int32 → Option (tg_S × Int64)
  | 0 => fun _ _ _ => none
  | n + 1 => f_X8_digest_59  (L_X8_digest_59  n)
def f_X8_digest_33 (rec33 : tg_S → Int64 → Int32 → Option (tg_S × Int64)) (S : tg_S) (v1 : Int64) (v3 : Int32) : Option (tg_S × Int64) :=
  tg_if (4 ≤ v3)
    (L_X8_digest_59 tg_F S v1 0)
    (tg_bd (f_X8_faultOf S v3) fun S2 r3 =>
      tg_nm ((31 * v1) + (r3.toInt64) : Int64) fun y4 =>
      tg_nm (v3 + 1 : Int32) fun y5 =>
      rec33 S2 y4 y5)
def L_X8_digest_33 : Nat → tg_S → Int64 → Int32 → Option (tg_S × Int64)
  | 0 => fun _ _ _ => none
  | n + 1 => f_X8_digest_33  (L_X8_digest_33  n)
def f_X8_digest_6 (rec6 : tg_S → Int64 → Int32 → Option (tg_S × Int64)) (S : tg_S) (v1 : Int64) (v3 : Int32) : Option (tg_S × Int64) :=
  tg_if (8 ≤ v3)
    (L_X8_digest_33 tg_F S v1 0)
    (tg_bd (f_X8_count S v3) fun S2 r3 =>
      tg_nm ((31 * v1) + (r3.toInt64) : Int64) fun y4 =>
      tg_nm (v3 + 1 : Int32) fun y5 =>
      rec6 S2 y4 y5)
def L_X8_digest_6 : Nat → tg_S → Int64 → Int32 → Option (tg_S × Int64)
  | 0 => fun _ _ _ => none
  | n + 1 => f_X8_digest_6  (L_X8_digest_6  n)
def f_X8_digest (S : tg_S) : Option (tg_S × Int64) :=
  L_X8_digest_6 tg_F S 17 0
