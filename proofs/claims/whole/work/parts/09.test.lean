theorem dX10_isFrom_0 : decode cX10_isFrom 0 = .ok (.iload_n 1, 1) := by decide +kernel
theorem dX10_isFrom_1 : decode cX10_isFrom 1 = .ok (.iload_n 0, 1) := by decide +kernel
theorem dX10_isFrom_2 : decode cX10_isFrom 2 = .ok (.if_icmp .lt 12, 3) := by decide +kernel
theorem dX10_isFrom_5 : decode cX10_isFrom 5 = .ok (.iload_n 1, 1) := by decide +kernel
theorem dX10_isFrom_6 : decode cX10_isFrom 6 = .ok (.iload_n 2, 1) := by decide +kernel
theorem dX10_isFrom_7 : decode cX10_isFrom 7 = .ok (.if_icmp .gt 7, 3) := by decide +kernel
theorem dX10_isFrom_10 : decode cX10_isFrom 10 = .ok (.iconst 1, 1) := by decide +kernel
theorem dX10_isFrom_11 : decode cX10_isFrom 11 = .ok (.goto 4, 3) := by decide +kernel
theorem dX10_isFrom_14 : decode cX10_isFrom 14 = .ok (.iconst 0, 1) := by decide +kernel
theorem dX10_isFrom_15 : decode cX10_isFrom 15 = .ok (.ireturn, 1) := by decide +kernel
theorem dX10_passedBy_0 : decode cX10_passedBy 0 = .ok (.iconst 0, 1) := by decide +kernel
theorem dX10_passedBy_1 : decode cX10_passedBy 1 = .ok (.iload_n 0, 1) := by decide +kernel
theorem dX10_passedBy_2 : decode cX10_passedBy 2 = .ok (.iload_n 1, 1) := by decide +kernel
theorem dX10_passedBy_3 : decode cX10_passedBy 3 = .ok (.isub, 1) := by decide +kernel
theorem dX10_passedBy_4 : decode cX10_passedBy 4 = .ok (.invokestatic 444, 3) := by decide +kernel
theorem dX10_passedBy_7 : decode cX10_passedBy 7 = .ok (.ireturn, 1) := by decide +kernel
theorem dX10_placeAt_0 : decode cX10_placeAt 0 = .ok (.iload_n 1, 1) := by decide +kernel
theorem dX10_placeAt_1 : decode cX10_placeAt 1 = .ok (.iconst 4, 1) := by decide +kernel
theorem dX10_placeAt_2 : decode cX10_placeAt 2 = .ok (.imul, 1) := by decide +kernel
theorem dX10_placeAt_3 : decode cX10_placeAt 3 = .ok (.iload_n 0, 1) := by decide +kernel
theorem dX10_placeAt_4 : decode cX10_placeAt 4 = .ok (.iadd, 1) := by decide +kernel
theorem dX10_placeAt_5 : decode cX10_placeAt 5 = .ok (.ireturn, 1) := by decide +kernel
theorem dX6_countGrains_0 : decode cX6_countGrains 0 = .ok (.iconst 0, 1) := by decide +kernel
theorem dX6_countGrains_1 : decode cX6_countGrains 1 = .ok (.istore_n 1, 1) := by decide +kernel
theorem dX6_countGrains_2 : decode cX6_countGrains 2 = .ok (.iconst 0, 1) := by decide +kernel
theorem dX6_countGrains_3 : decode cX6_countGrains 3 = .ok (.istore_n 2, 1) := by decide +kernel
theorem dX6_countGrains_4 : decode cX6_countGrains 4 = .ok (.iload_n 2, 1) := by decide +kernel
theorem dX6_countGrains_5 : decode cX6_countGrains 5 = .ok (.bipush 16, 2) := by decide +kernel
theorem dX6_countGrains_7 : decode cX6_countGrains 7 = .ok (.if_icmp .ge 15, 3) := by decide +kernel
theorem dX6_countGrains_10 : decode cX6_countGrains 10 = .ok (.iload_n 1, 1) := by decide +kernel
theorem dX6_countGrains_11 : decode cX6_countGrains 11 = .ok (.aload_n 0, 1) := by decide +kernel
theorem dX6_countGrains_12 : decode cX6_countGrains 12 = .ok (.iload_n 2, 1) := by decide +kernel
theorem dX6_countGrains_13 : decode cX6_countGrains 13 = .ok (.iaload, 1) := by decide +kernel
theorem dX6_countGrains_14 : decode cX6_countGrains 14 = .ok (.iadd, 1) := by decide +kernel
theorem dX6_countGrains_15 : decode cX6_countGrains 15 = .ok (.istore_n 1, 1) := by decide +kernel
theorem dX6_countGrains_16 : decode cX6_countGrains 16 = .ok (.iinc 2 1, 3) := by decide +kernel
theorem dX6_countGrains_19 : decode cX6_countGrains 19 = .ok (.goto (-15), 3) := by decide +kernel
theorem dX6_countGrains_22 : decode cX6_countGrains 22 = .ok (.iload_n 1, 1) := by decide +kernel
theorem dX6_countGrains_23 : decode cX6_countGrains 23 = .ok (.ireturn, 1) := by decide +kernel
theorem dX6_highestPlace_0 : decode cX6_highestPlace 0 = .ok (.iconst 0, 1) := by decide +kernel
theorem dX6_highestPlace_1 : decode cX6_highestPlace 1 = .ok (.istore_n 1, 1) := by decide +kernel
theorem dX6_highestPlace_2 : decode cX6_highestPlace 2 = .ok (.iconst 1, 1) := by decide +kernel
theorem dX6_highestPlace_3 : decode cX6_highestPlace 3 = .ok (.istore_n 2, 1) := by decide +kernel
theorem dX6_highestPlace_4 : decode cX6_highestPlace 4 = .ok (.iload_n 2, 1) := by decide +kernel
theorem dX6_highestPlace_5 : decode cX6_highestPlace 5 = .ok (.bipush 16, 2) := by decide +kernel
theorem dX6_highestPlace_7 : decode cX6_highestPlace 7 = .ok (.if_icmp .ge 20, 3) := by decide +kernel
theorem dX6_highestPlace_10 : decode cX6_highestPlace 10 = .ok (.aload_n 0, 1) := by decide +kernel
theorem dX6_highestPlace_11 : decode cX6_highestPlace 11 = .ok (.iload_n 2, 1) := by decide +kernel
theorem dX6_highestPlace_12 : decode cX6_highestPlace 12 = .ok (.iaload, 1) := by decide +kernel
theorem dX6_highestPlace_13 : decode cX6_highestPlace 13 = .ok (.aload_n 0, 1) := by decide +kernel
theorem dX6_highestPlace_14 : decode cX6_highestPlace 14 = .ok (.iload_n 1, 1) := by decide +kernel
theorem dX6_highestPlace_15 : decode cX6_highestPlace 15 = .ok (.iaload, 1) := by decide +kernel
theorem dX6_highestPlace_16 : decode cX6_highestPlace 16 = .ok (.if_icmp .le 5, 3) := by decide +kernel
theorem dX6_highestPlace_19 : decode cX6_highestPlace 19 = .ok (.iload_n 2, 1) := by decide +kernel
theorem dX6_highestPlace_20 : decode cX6_highestPlace 20 = .ok (.istore_n 1, 1) := by decide +kernel
theorem dX6_highestPlace_21 : decode cX6_highestPlace 21 = .ok (.iinc 2 1, 3) := by decide +kernel
theorem dX6_highestPlace_24 : decode cX6_highestPlace 24 = .ok (.goto (-20), 3) := by decide +kernel
theorem dX6_highestPlace_27 : decode cX6_highestPlace 27 = .ok (.iload_n 1, 1) := by decide +kernel
theorem dX6_highestPlace_28 : decode cX6_highestPlace 28 = .ok (.ireturn, 1) := by decide +kernel
theorem dX6_beside_0 : decode cX6_beside 0 = .ok (.iload_n 0, 1) := by decide +kernel
theorem dX6_beside_1 : decode cX6_beside 1 = .ok (.iconst 4, 1) := by decide +kernel
theorem dX6_beside_2 : decode cX6_beside 2 = .ok (.irem, 1) := by decide +kernel
theorem dX6_beside_3 : decode cX6_beside 3 = .ok (.istore_n 2, 1) := by decide +kernel
theorem dX6_beside_4 : decode cX6_beside 4 = .ok (.iload_n 0, 1) := by decide +kernel
theorem dX6_beside_5 : decode cX6_beside 5 = .ok (.iconst 4, 1) := by decide +kernel
theorem dX6_beside_6 : decode cX6_beside 6 = .ok (.idiv, 1) := by decide +kernel
theorem dX6_beside_7 : decode cX6_beside 7 = .ok (.istore_n 3, 1) := by decide +kernel
theorem dX6_beside_8 : decode cX6_beside 8 = .ok (.iload_n 1, 1) := by decide +kernel
theorem dX6_beside_9 : decode cX6_beside 9 = .ok (.tableswitch 64 0 2 #[27, 39, 52], 27) := by decide +kernel
theorem dX6_beside_36 : decode cX6_beside 36 = .ok (.iload_n 2, 1) := by decide +kernel
theorem dX6_beside_37 : decode cX6_beside 37 = .ok (.ifCond .le 9, 3) := by decide +kernel
theorem dX6_beside_40 : decode cX6_beside 40 = .ok (.iload_n 0, 1) := by decide +kernel
theorem dX6_beside_41 : decode cX6_beside 41 = .ok (.iconst 1, 1) := by decide +kernel
theorem dX6_beside_42 : decode cX6_beside 42 = .ok (.isub, 1) := by decide +kernel
theorem dX6_beside_43 : decode cX6_beside 43 = .ok (.goto 4, 3) := by decide +kernel
theorem dX6_beside_46 : decode cX6_beside 46 = .ok (.iconst (-1), 1) := by decide +kernel
theorem dX6_beside_47 : decode cX6_beside 47 = .ok (.ireturn, 1) := by decide +kernel
theorem dX6_beside_48 : decode cX6_beside 48 = .ok (.iload_n 2, 1) := by decide +kernel
theorem dX6_beside_49 : decode cX6_beside 49 = .ok (.iconst 3, 1) := by decide +kernel
theorem dX6_beside_50 : decode cX6_beside 50 = .ok (.if_icmp .ge 9, 3) := by decide +kernel
theorem dX6_beside_53 : decode cX6_beside 53 = .ok (.iload_n 0, 1) := by decide +kernel
theorem dX6_beside_54 : decode cX6_beside 54 = .ok (.iconst 1, 1) := by decide +kernel
theorem dX6_beside_55 : decode cX6_beside 55 = .ok (.iadd, 1) := by decide +kernel
theorem dX6_beside_56 : decode cX6_beside 56 = .ok (.goto 4, 3) := by decide +kernel
theorem dX6_beside_59 : decode cX6_beside 59 = .ok (.iconst (-1), 1) := by decide +kernel
theorem dX6_beside_60 : decode cX6_beside 60 = .ok (.ireturn, 1) := by decide +kernel
theorem dX6_beside_61 : decode cX6_beside 61 = .ok (.iload_n 3, 1) := by decide +kernel
theorem dX6_beside_62 : decode cX6_beside 62 = .ok (.ifCond .le 9, 3) := by decide +kernel
theorem dX6_beside_65 : decode cX6_beside 65 = .ok (.iload_n 0, 1) := by decide +kernel
theorem dX6_beside_66 : decode cX6_beside 66 = .ok (.iconst 4, 1) := by decide +kernel
theorem dX6_beside_67 : decode cX6_beside 67 = .ok (.isub, 1) := by decide +kernel
theorem dX6_beside_68 : decode cX6_beside 68 = .ok (.goto 4, 3) := by decide +kernel
theorem dX6_beside_71 : decode cX6_beside 71 = .ok (.iconst (-1), 1) := by decide +kernel
theorem dX6_beside_72 : decode cX6_beside 72 = .ok (.ireturn, 1) := by decide +kernel
theorem dX6_beside_73 : decode cX6_beside 73 = .ok (.iload_n 3, 1) := by decide +kernel
theorem dX6_beside_74 : decode cX6_beside 74 = .ok (.iconst 3, 1) := by decide +kernel
theorem dX6_beside_75 : decode cX6_beside 75 = .ok (.if_icmp .ge 9, 3) := by decide +kernel
theorem dX6_beside_78 : decode cX6_beside 78 = .ok (.iload_n 0, 1) := by decide +kernel
theorem dX6_beside_79 : decode cX6_beside 79 = .ok (.iconst 4, 1) := by decide +kernel
theorem dX6_beside_80 : decode cX6_beside 80 = .ok (.iadd, 1) := by decide +kernel
theorem dX6_beside_81 : decode cX6_beside 81 = .ok (.goto 4, 3) := by decide +kernel
theorem dX6_beside_84 : decode cX6_beside 84 = .ok (.iconst (-1), 1) := by decide +kernel
theorem dX6_beside_85 : decode cX6_beside 85 = .ok (.ireturn, 1) := by decide +kernel
theorem dX8_hasExhibit_0 : decode cX8_hasExhibit 0 = .ok (.iload_n 1, 1) := by decide +kernel
theorem dX8_hasExhibit_1 : decode cX8_hasExhibit 1 = .ok (.ifCond .lt 15, 3) := by decide +kernel
theorem dX8_hasExhibit_4 : decode cX8_hasExhibit 4 = .ok (.iload_n 1, 1) := by decide +kernel
theorem dX8_hasExhibit_5 : decode cX8_hasExhibit 5 = .ok (.aload_n 0, 1) := by decide +kernel
theorem dX8_hasExhibit_6 : decode cX8_hasExhibit 6 = .ok (.getfield 40, 3) := by decide +kernel
theorem dX8_hasExhibit_9 : decode cX8_hasExhibit 9 = .ok (.if_icmp .ge 7, 3) := by decide +kernel
theorem dX8_hasExhibit_12 : decode cX8_hasExhibit 12 = .ok (.iconst 1, 1) := by decide +kernel
theorem dX8_hasExhibit_13 : decode cX8_hasExhibit 13 = .ok (.goto 4, 3) := by decide +kernel
theorem dX8_hasExhibit_16 : decode cX8_hasExhibit 16 = .ok (.iconst 0, 1) := by decide +kernel
theorem dX8_hasExhibit_17 : decode cX8_hasExhibit 17 = .ok (.ireturn, 1) := by decide +kernel
theorem dX8_roomIndexFault_0 : decode cX8_roomIndexFault 0 = .ok (.iload_n 1, 1) := by decide +kernel
theorem dX8_roomIndexFault_1 : decode cX8_roomIndexFault 1 = .ok (.ifCond .lt 17, 3) := by decide +kernel
theorem dX8_roomIndexFault_4 : decode cX8_roomIndexFault 4 = .ok (.iload_n 1, 1) := by decide +kernel
theorem dX8_roomIndexFault_5 : decode cX8_roomIndexFault 5 = .ok (.aload_n 0, 1) := by decide +kernel
theorem dX8_roomIndexFault_6 : decode cX8_roomIndexFault 6 = .ok (.getfield 30, 3) := by decide +kernel
theorem dX8_roomIndexFault_9 : decode cX8_roomIndexFault 9 = .ok (.if_icmp .ge 9, 3) := by decide +kernel
theorem dX8_roomIndexFault_12 : decode cX8_roomIndexFault 12 = .ok (.getstatic 53, 3) := by decide +kernel
theorem dX8_roomIndexFault_15 : decode cX8_roomIndexFault 15 = .ok (.goto 6, 3) := by decide +kernel
theorem dX8_roomIndexFault_18 : decode cX8_roomIndexFault 18 = .ok (.getstatic 59, 3) := by decide +kernel
theorem dX8_roomIndexFault_21 : decode cX8_roomIndexFault 21 = .ok (.areturn, 1) := by decide +kernel
theorem dX8_pairFault_0 : decode cX8_pairFault 0 = .ok (.aload_n 0, 1) := by decide +kernel
theorem dX8_pairFault_1 : decode cX8_pairFault 1 = .ok (.iload_n 1, 1) := by decide +kernel
theorem dX8_pairFault_2 : decode cX8_pairFault 2 = .ok (.invokevirtual 62, 3) := by decide +kernel
theorem dX8_pairFault_5 : decode cX8_pairFault 5 = .ok (.getstatic 53, 3) := by decide +kernel
theorem dX8_pairFault_8 : decode cX8_pairFault 8 = .ok (.if_acmp .ne 11, 3) := by decide +kernel
theorem dX8_pairFault_11 : decode cX8_pairFault 11 = .ok (.aload_n 0, 1) := by decide +kernel
theorem dX8_pairFault_12 : decode cX8_pairFault 12 = .ok (.iload_n 2, 1) := by decide +kernel
theorem dX8_pairFault_13 : decode cX8_pairFault 13 = .ok (.invokevirtual 62, 3) := by decide +kernel
theorem dX8_pairFault_16 : decode cX8_pairFault 16 = .ok (.goto 6, 3) := by decide +kernel
theorem dX8_pairFault_19 : decode cX8_pairFault 19 = .ok (.getstatic 59, 3) := by decide +kernel
theorem dX8_pairFault_22 : decode cX8_pairFault 22 = .ok (.areturn, 1) := by decide +kernel
theorem dX8_joins_0 : decode cX8_joins 0 = .ok (.aload_n 0, 1) := by decide +kernel
theorem dX8_joins_1 : decode cX8_joins 1 = .ok (.getfield 17, 3) := by decide +kernel
theorem dX8_joins_4 : decode cX8_joins 4 = .ok (.iload_n 1, 1) := by decide +kernel
theorem dX8_joins_5 : decode cX8_joins 5 = .ok (.aaload, 1) := by decide +kernel
theorem dX8_joins_6 : decode cX8_joins 6 = .ok (.iload_n 2, 1) := by decide +kernel
theorem dX8_joins_7 : decode cX8_joins 7 = .ok (.iaload, 1) := by decide +kernel
theorem dX8_joins_8 : decode cX8_joins 8 = .ok (.ifCond .le 7, 3) := by decide +kernel
theorem dX8_joins_11 : decode cX8_joins 11 = .ok (.iconst 1, 1) := by decide +kernel
theorem dX8_joins_12 : decode cX8_joins 12 = .ok (.goto 4, 3) := by decide +kernel
theorem dX8_joins_15 : decode cX8_joins 15 = .ok (.iconst 0, 1) := by decide +kernel
theorem dX8_joins_16 : decode cX8_joins 16 = .ok (.ireturn, 1) := by decide +kernel
theorem dX8_putRoom_0 : decode cX8_putRoom 0 = .ok (.aload_n 0, 1) := by decide +kernel
theorem dX8_putRoom_1 : decode cX8_putRoom 1 = .ok (.getfield 9, 3) := by decide +kernel
theorem dX8_putRoom_4 : decode cX8_putRoom 4 = .ok (.aload_n 0, 1) := by decide +kernel
theorem dX8_putRoom_5 : decode cX8_putRoom 5 = .ok (.getfield 30, 3) := by decide +kernel
theorem dX8_putRoom_8 : decode cX8_putRoom 8 = .ok (.iload_n 1, 1) := by decide +kernel
theorem dX8_putRoom_9 : decode cX8_putRoom 9 = .ok (.iastore, 1) := by decide +kernel
theorem dX8_putRoom_10 : decode cX8_putRoom 10 = .ok (.aload_n 0, 1) := by decide +kernel
theorem dX8_putRoom_11 : decode cX8_putRoom 11 = .ok (.dup, 1) := by decide +kernel
theorem dX8_putRoom_12 : decode cX8_putRoom 12 = .ok (.getfield 30, 3) := by decide +kernel
theorem dX8_putRoom_15 : decode cX8_putRoom 15 = .ok (.iconst 1, 1) := by decide +kernel
theorem dX8_putRoom_16 : decode cX8_putRoom 16 = .ok (.iadd, 1) := by decide +kernel
theorem dX8_putRoom_17 : decode cX8_putRoom 17 = .ok (.putfield 30, 3) := by decide +kernel
theorem dX8_putRoom_20 : decode cX8_putRoom 20 = .ok (.aload_n 0, 1) := by decide +kernel
theorem dX8_putRoom_21 : decode cX8_putRoom 21 = .ok (.getfield 30, 3) := by decide +kernel
theorem dX8_putRoom_24 : decode cX8_putRoom 24 = .ok (.iconst 1, 1) := by decide +kernel
theorem dX8_putRoom_25 : decode cX8_putRoom 25 = .ok (.isub, 1) := by decide +kernel
theorem dX8_putRoom_26 : decode cX8_putRoom 26 = .ok (.ireturn, 1) := by decide +kernel
def fX10_isFrom (N : Nat) (μ : Mem) (a0 : Int32) (a1 : Int32) (a2 : Int32) : Option Bool :=
  jn (fun (y1 : Bool) =>
  some y1) fun j2 =>
  jn (fun (u5 : Unit) =>
  j2 false) fun j6 =>
  if a1 < a0 then
  (j6 ())
  else (if a2 < a1 then
  (j6 ())
  else (j2 true))

def fX10_passedBy (N : Nat) (μ : Mem) (a0 : Int32) (a1 : Int32) : Option Int32 :=
  some (imax 0 (a0 - a1))

def fX10_placeAt (N : Nat) (μ : Mem) (a0 : Int32) (a1 : Int32) : Option Int32 :=
  some ((a1 * 4) + a0)

def fX6_countGrains (N : Nat) (μ : Mem) (a0 : Nat) : Option Int32 :=
  fix2 (fun self3 x1 x2 =>
  if 16 ≤ x2 then
  (some x1)
  else (ag (μ a0) 16 x2 fun v6 =>
  lt (x1 + v6) fun v9 =>
  lt (x2 + 1) fun v11 =>
  self3 v9 v11)) N 0 0

def fX6_highestPlace (N : Nat) (μ : Mem) (a0 : Nat) : Option Int32 :=
  fix2 (fun self3 x1 x2 =>
  if 16 ≤ x2 then
  (some x1)
  else (ag (μ a0) 16 x2 fun v6 =>
  ag (μ a0) 16 x1 fun v9 =>
  jn (fun (y12 : Int32) =>
  lt (x2 + 1) fun v16 =>
  self3 y12 v16) fun j13 =>
  if v6 ≤ v9 then
  (j13 x1)
  else (j13 x2))) N 0 1

def fX6_beside (N : Nat) (μ : Mem) (a0 : Int32) (a1 : Int32) : Option Int32 :=
  lt (a0 - a0 / 4 * 4) fun v1 =>
  lt (a0 / 4) fun v3 =>
  (if a1 = 0 then
  (jn (fun (y6 : Int32) =>
  some y6) fun j7 =>
  if v1 ≤ 0 then
  (j7 (-1))
  else (j7 (a0 - 1)))
  else if a1 = 1 then
  (jn (fun (y12 : Int32) =>
  some y12) fun j13 =>
  if 3 ≤ v1 then
  (j13 (-1))
  else (j13 (a0 + 1)))
  else if a1 = 2 then
  (jn (fun (y18 : Int32) =>
  some y18) fun j19 =>
  if v3 ≤ 0 then
  (j19 (-1))
  else (j19 (a0 - 4)))
  else (jn (fun (y23 : Int32) =>
  some y23) fun j24 =>
  if 3 ≤ v3 then
  (j24 (-1))
  else (j24 (a0 + 4))))

def fX8_hasExhibit (N : Nat) (μ : Mem) (a0 : Nat) (a1 : Int32) : Option Bool :=
  jn (fun (y1 : Bool) =>
  some y1) fun j2 =>
  jn (fun (u5 : Unit) =>
  j2 false) fun j6 =>
  if a1 < 0 then
  (j6 ())
  else (if (μ a0 4) ≤ a1 then
  (j6 ())
  else (j2 true))

def fX8_roomIndexFault (N : Nat) (μ : Mem) (a0 : Nat) (a1 : Int32) : Option Nat :=
  jn (fun (y1 : Nat) =>
  some y1) fun j2 =>
  jn (fun (u5 : Unit) =>
  j2 1) fun j6 =>
  if a1 < 0 then
  (j6 ())
  else (if (μ a0 0) ≤ a1 then
  (j6 ())
  else (j2 0))

def fX8_pairFault (N : Nat) (μ : Mem) (a0 : Nat) (a1 : Int32) (a2 : Int32) : Option Nat :=
  (fX8_roomIndexFault N μ a0 a1).bind fun r1 =>
  jn (fun (y2 : Nat) =>
  some y2) fun j3 =>
  if r1 = 0 then
  ((fX8_roomIndexFault N μ a0 a2).bind fun r7 =>
  j3 r7)
  else (j3 1)

def fX8_joins (N : Nat) (μ : Mem) (a0 : Nat) (a1 : Int32) (a2 : Int32) : Option Bool :=
  ar 6 a1 fun q1 =>
  ag (μ ((a0 + 2) + 1 + 1 * q1)) 6 a2 fun v5 =>
  jn (fun (y8 : Bool) =>
  some y8) fun j9 =>
  if v5 ≤ 0 then
  (j9 false)
  else (j9 true)

def fX8_putRoom (N : Nat) (μ : Mem) (a0 : Nat) (a1 : Int32) : Option (Mem × Int32) :=
  aw μ (a0 + 1) 6 (μ a0 0) a1 fun μ1 =>
  lt (mset μ1 a0 0 ((μ1 a0 0) + 1)) fun μ4 =>
  some (μ4, ((μ4 a0 0) - 1))

abbrev rmX10_isFrom : Room := { frames := 2, cells := 0, slots := 0, locals := 60 }
set_option maxHeartbeats 4000000 in
set_option maxRecDepth 100000 in
theorem metX10_isFrom {l : Launch} {s0 : State} {b B : Nat} {D : va_G} {T : Nat → ClassId} (F : FX l s0 b D T B) {X : Nat → Prop} (hX : ∀ o, o < 560 → ¬ X (B + o)) {N : Nat} {μ : Mem} {a0 : Int32} {a1 : Int32} {a2 : Int32} {r : Bool}  (h : fX10_isFrom N μ a0 a1 a2 = some r) : gMet l yX10_isFrom cX10_isFrom 3 (some .boolean) rmX10_isFrom [.int a0, .int a1, .int a2] (gWC s0 D T B μ) (KC s0 X) (some (.int (b2i r))) (gWC s0 D T B μ) (gA B X) 0 0 := by
  refine gZ_of RX10 (by decide +kernel) rfl (Nat.le_of_ble_eq_true rfl) ?_
  intro p e s m args below meth c ls Q hx hb hlocks hml hown hts hW hk hl hS hend
  have hC := FX_C F hk hx hb hown hts
  have hA := gA_all hX
  have hl : lv_has ls 3 [(0, .int a0), (1, .int a1), (2, .int a2)] := hl
  unfold fX10_isFrom at h
  refine lv_iload_n hx hb dX10_isFrom_0 rfl (lv_at hl 1 rfl) ?_
  refine lv_iload_n hx hb dX10_isFrom_1 rfl (lv_at hl 0 rfl) ?_
  obtain ⟨j2, hj4, h⟩ := jn1_o h
  have J3 : ∀ (y1 : Bool), j2 y1 = some r → ∀ (H : Heap) (locs : List Loc) (ls : Array Slot), gWC s0 D T B μ H → va_S (gA B X) s.heap H locs → lv_has ls 3 [] → W p l e rmX10_isFrom s m args below meth c H locs 0 0 Q (F0 m 15 ls [.int (b2i y1)]) := by
    clear h hW hS hl
    intro y1 h H locs ls hW hS hl
    replace h := (hj4 y1).symm.trans h
    cases h
    exact hend dX10_isFrom_15 hW hS (Nat.le_of_ble_eq_true rfl) (Nat.le_of_ble_eq_true rfl)
  obtain ⟨j6, hj8, h⟩ := jn1_o h
  have J7 : ∀ (u5 : Unit), j6 u5 = some r → ∀ (H : Heap) (locs : List Loc) (ls : Array Slot), gWC s0 D T B μ H → va_S (gA B X) s.heap H locs → lv_has ls 3 [] → W p l e rmX10_isFrom s m args below meth c H locs 0 0 Q (F0 m 14 ls []) := by
    clear h hW hS hl
    intro u5 h H locs ls hW hS hl
    replace h := (hj8 u5).symm.trans h
    refine lv_iconst (v := 0) hx hb dX10_isFrom_14 (by decide) ?_
    exact J3 _ h _ _ _ hW hS (lv_sub hl [] rfl)
  refine lv_icmp_lt (tgt := 14) hx hb dX10_isFrom_2 (by decide) (fun c9 => ?_) (fun c9 => ?_)
  · replace h := ite_t c9 h
    exact J7 _ h _ _ _ hW hS (lv_sub hl [] rfl)
  · replace h := ite_f c9 h
    refine lv_iload_n hx hb dX10_isFrom_5 rfl (lv_at hl 1 rfl) ?_
    refine lv_iload_n hx hb dX10_isFrom_6 rfl (lv_at hl 2 rfl) ?_
    refine lv_icmp_gt (tgt := 14) hx hb dX10_isFrom_7 (by decide) (fun c10 => ?_) (fun c10 => ?_)
    · replace h := ite_t c10 h
      exact J7 _ h _ _ _ hW hS (lv_sub hl [] rfl)
    · replace h := ite_f c10 h
      refine lv_iconst (v := 1) hx hb dX10_isFrom_10 (by decide) ?_
      refine lv_goto (tgt := 15) hx hb dX10_isFrom_11 (by decide) ?_
      exact J3 _ h _ _ _ hW hS (lv_sub hl [] rfl)

abbrev rmX10_passedBy : Room := { frames := 2, cells := 0, slots := 0, locals := 60 }
set_option maxHeartbeats 4000000 in
set_option maxRecDepth 100000 in
theorem metX10_passedBy {l : Launch} {s0 : State} {b B : Nat} {D : va_G} {T : Nat → ClassId} (F : FX l s0 b D T B) {X : Nat → Prop} (hX : ∀ o, o < 560 → ¬ X (B + o)) {N : Nat} {μ : Mem} {a0 : Int32} {a1 : Int32} {r : Int32}  (h : fX10_passedBy N μ a0 a1 = some r) : gMet l yX10_passedBy cX10_passedBy 2 (some .int) rmX10_passedBy [.int a0, .int a1] (gWC s0 D T B μ) (KC s0 X) (some (.int r)) (gWC s0 D T B μ) (gA B X) 0 0 := by
  refine gI_of RX10 (by decide +kernel) rfl (Nat.le_of_ble_eq_true rfl) ?_
  intro p e s m args below meth c ls Q hx hb hlocks hml hown hts hW hk hl hS hend
  have hC := FX_C F hk hx hb hown hts
  have hA := gA_all hX
  have hl : lv_has ls 2 [(0, .int a0), (1, .int a1)] := hl
  unfold fX10_passedBy at h
  refine lv_iconst (v := 0) hx hb dX10_passedBy_0 (by decide) ?_
  refine lv_iload_n hx hb dX10_passedBy_1 rfl (lv_at hl 0 rfl) ?_
  refine lv_iload_n hx hb dX10_passedBy_2 rfl (lv_at hl 1 rfl) ?_
  refine lv_isub hx hb dX10_passedBy_3 ?_
  refine gw_max hC (hml.trans hl.1.symm) lm_X10_444 lb_max.1 lb_max.2.1 lb_max.2.2 (Nat.le_of_ble_eq_true rfl) (Nat.le_of_ble_eq_true rfl) (Nat.le_of_ble_eq_true rfl) (Nat.le_of_ble_eq_true rfl) dX10_passedBy_4 ?_
  cases h
  exact hend dX10_passedBy_7 hW hS (Nat.le_of_ble_eq_true rfl) (Nat.le_of_ble_eq_true rfl)

abbrev rmX10_placeAt : Room := { frames := 2, cells := 0, slots := 0, locals := 60 }
set_option maxHeartbeats 4000000 in
set_option maxRecDepth 100000 in
theorem metX10_placeAt {l : Launch} {s0 : State} {b B : Nat} {D : va_G} {T : Nat → ClassId} (F : FX l s0 b D T B) {X : Nat → Prop} (hX : ∀ o, o < 560 → ¬ X (B + o)) {N : Nat} {μ : Mem} {a0 : Int32} {a1 : Int32} {r : Int32}  (h : fX10_placeAt N μ a0 a1 = some r) : gMet l yX10_placeAt cX10_placeAt 2 (some .int) rmX10_placeAt [.int a0, .int a1] (gWC s0 D T B μ) (KC s0 X) (some (.int r)) (gWC s0 D T B μ) (gA B X) 0 0 := by
  refine gI_of RX10 (by decide +kernel) rfl (Nat.le_of_ble_eq_true rfl) ?_
  intro p e s m args below meth c ls Q hx hb hlocks hml hown hts hW hk hl hS hend
  have hC := FX_C F hk hx hb hown hts
  have hA := gA_all hX
  have hl : lv_has ls 2 [(0, .int a0), (1, .int a1)] := hl
  unfold fX10_placeAt at h
  refine lv_iload_n hx hb dX10_placeAt_0 rfl (lv_at hl 1 rfl) ?_
  refine lv_iconst (v := 4) hx hb dX10_placeAt_1 (by decide) ?_
  refine lv_imul hx hb dX10_placeAt_2 ?_
  refine lv_iload_n hx hb dX10_placeAt_3 rfl (lv_at hl 0 rfl) ?_
  refine lv_iadd hx hb dX10_placeAt_4 ?_
  cases h
  exact hend dX10_placeAt_5 hW hS (Nat.le_of_ble_eq_true rfl) (Nat.le_of_ble_eq_true rfl)

abbrev rmX6_countGrains : Room := { frames := 2, cells := 0, slots := 0, locals := 60 }
set_option maxHeartbeats 4000000 in
set_option maxRecDepth 100000 in
theorem metX6_countGrains {l : Launch} {s0 : State} {b B : Nat} {D : va_G} {T : Nat → ClassId} (F : FX l s0 b D T B) {X : Nat → Prop} (hX : ∀ o, o < 560 → ¬ X (B + o)) {N : Nat} {μ : Mem} {a0 : Nat} {r : Int32} (k0 : (IA 16) a0) (h : fX6_countGrains N μ a0 = some r) : gMet l yX6_countGrains cX6_countGrains 3 (some .int) rmX6_countGrains [.ref (B + a0)] (gWC s0 D T B μ) (KC s0 X) (some (.int r)) (gWC s0 D T B μ) (gA B X) 0 0 := by
  refine gI_of RX6 (by decide +kernel) rfl (Nat.le_of_ble_eq_true rfl) ?_
  intro p e s m args below meth c ls Q hx hb hlocks hml hown hts hW hk hl hS hend
  have hC := FX_C F hk hx hb hown hts
  have hA := gA_all hX
  have hl : lv_has ls 3 [(0, .ref (B + a0))] := hl
  unfold fX6_countGrains at h
  refine lv_iconst (v := 0) hx hb dX6_countGrains_0 (by decide) ?_
  refine lv_istore_n (lv' := [(1, .int 0), (0, .ref (B + a0))]) hx hb dX6_countGrains_1 rfl hl (by decide) rfl (fun ls hl => ?_)
  refine lv_iconst (v := 0) hx hb dX6_countGrains_2 (by decide) ?_
  refine lv_istore_n (lv' := [(2, .int 0), (1, .int 0), (0, .ref (B + a0))]) hx hb dX6_countGrains_3 rfl hl (by decide) rfl (fun ls hl => ?_)
  refine fix2_ind (fun (x1 : Int32) (x2 : Int32) => ∀ (H : Heap) (locs : List Loc) (ls : Array Slot), gWC s0 D T B μ H → va_S (gA B X) s.heap H locs → lv_has ls 3 [(0, .ref (B + a0)), (1, .int x1), (2, .int x2)] → W p l e rmX6_countGrains s m args below meth c H locs 0 0 Q (F0 m 4 ls [])) ?_ N _ _ h _ _ _ hW hS (lv_sub hl [2, 1, 0] rfl)
  clear h hW hS hl
  intro self3 IH4 x1 x2 h H locs ls hW hS hl
  refine lv_iload_n hx hb dX6_countGrains_4 rfl (lv_at hl 2 rfl) ?_
  refine lv_bipush (v := 16) hx hb dX6_countGrains_5 (by decide) ?_
  refine lv_icmp_ge (tgt := 22) hx hb dX6_countGrains_7 (by decide) (fun c5 => ?_) (fun c5 => ?_)
  · replace h := ite_t c5 h
    refine lv_iload_n hx hb dX6_countGrains_22 rfl (lv_at hl 1 rfl) ?_
    cases h
    exact hend dX6_countGrains_23 hW hS (Nat.le_of_ble_eq_true rfl) (Nat.le_of_ble_eq_true rfl)
  · replace h := ite_f c5 h
    refine lv_iload_n hx hb dX6_countGrains_10 rfl (lv_at hl 1 rfl) ?_
    refine lv_aload_n hx hb dX6_countGrains_11 rfl (lv_at hl 0 rfl) ?_
    refine lv_iload_n hx hb dX6_countGrains_12 rfl (lv_at hl 2 rfl) ?_
    obtain ⟨v6, e7, hi8, h⟩ := ag_o h
    refine gq_iald hC hW k0.1 (k0.2 (gfm s0) T B (μ a0)) (t0 := 0) rfl e7 hi8 dX6_countGrains_13 ?_
    refine lv_iadd hx hb dX6_countGrains_14 ?_
    obtain ⟨v9, e10, h⟩ := lt_out h
    rw [← e10]
    refine lv_istore_n (lv' := [(1, .int v9), (0, .ref (B + a0)), (2, .int x2)]) hx hb dX6_countGrains_15 rfl hl (by decide) rfl (fun ls hl => ?_)
    obtain ⟨v11, e12, h⟩ := lt_out h
    refine lv_iinc (v := v11) (lv' := [(2, .int v11), (1, .int v9), (0, .ref (B + a0))]) hx hb dX6_countGrains_16 hl (k := 2) rfl (by rw [e12]; rfl) (by decide) rfl (fun ls hl => ?_)
    refine lv_goto (tgt := 4) hx hb dX6_countGrains_19 (by decide) ?_
    exact IH4 _ _ h _ _ _ hW hS (lv_sub hl [2, 1, 0] rfl)

abbrev rmX6_highestPlace : Room := { frames := 2, cells := 0, slots := 0, locals := 60 }
set_option maxHeartbeats 4000000 in
set_option maxRecDepth 100000 in
theorem metX6_highestPlace {l : Launch} {s0 : State} {b B : Nat} {D : va_G} {T : Nat → ClassId} (F : FX l s0 b D T B) {X : Nat → Prop} (hX : ∀ o, o < 560 → ¬ X (B + o)) {N : Nat} {μ : Mem} {a0 : Nat} {r : Int32} (k0 : (IA 16) a0) (h : fX6_highestPlace N μ a0 = some r) : gMet l yX6_highestPlace cX6_highestPlace 3 (some .int) rmX6_highestPlace [.ref (B + a0)] (gWC s0 D T B μ) (KC s0 X) (some (.int r)) (gWC s0 D T B μ) (gA B X) 0 0 := by
  refine gI_of RX6 (by decide +kernel) rfl (Nat.le_of_ble_eq_true rfl) ?_
  intro p e s m args below meth c ls Q hx hb hlocks hml hown hts hW hk hl hS hend
  have hC := FX_C F hk hx hb hown hts
  have hA := gA_all hX
  have hl : lv_has ls 3 [(0, .ref (B + a0))] := hl
  unfold fX6_highestPlace at h
  refine lv_iconst (v := 0) hx hb dX6_highestPlace_0 (by decide) ?_
  refine lv_istore_n (lv' := [(1, .int 0), (0, .ref (B + a0))]) hx hb dX6_highestPlace_1 rfl hl (by decide) rfl (fun ls hl => ?_)
  refine lv_iconst (v := 1) hx hb dX6_highestPlace_2 (by decide) ?_
  refine lv_istore_n (lv' := [(2, .int 1), (1, .int 0), (0, .ref (B + a0))]) hx hb dX6_highestPlace_3 rfl hl (by decide) rfl (fun ls hl => ?_)
  refine fix2_ind (fun (x1 : Int32) (x2 : Int32) => ∀ (H : Heap) (locs : List Loc) (ls : Array Slot), gWC s0 D T B μ H → va_S (gA B X) s.heap H locs → lv_has ls 3 [(0, .ref (B + a0)), (1, .int x1), (2, .int x2)] → W p l e rmX6_highestPlace s m args below meth c H locs 0 0 Q (F0 m 4 ls [])) ?_ N _ _ h _ _ _ hW hS (lv_sub hl [2, 1, 0] rfl)
  clear h hW hS hl
  intro self3 IH4 x1 x2 h H locs ls hW hS hl
  refine lv_iload_n hx hb dX6_highestPlace_4 rfl (lv_at hl 2 rfl) ?_
  refine lv_bipush (v := 16) hx hb dX6_highestPlace_5 (by decide) ?_
  refine lv_icmp_ge (tgt := 27) hx hb dX6_highestPlace_7 (by decide) (fun c5 => ?_) (fun c5 => ?_)
  · replace h := ite_t c5 h
    refine lv_iload_n hx hb dX6_highestPlace_27 rfl (lv_at hl 1 rfl) ?_
    cases h
    exact hend dX6_highestPlace_28 hW hS (Nat.le_of_ble_eq_true rfl) (Nat.le_of_ble_eq_true rfl)
  · replace h := ite_f c5 h
    refine lv_aload_n hx hb dX6_highestPlace_10 rfl (lv_at hl 0 rfl) ?_
    refine lv_iload_n hx hb dX6_highestPlace_11 rfl (lv_at hl 2 rfl) ?_
    obtain ⟨v6, e7, hi8, h⟩ := ag_o h
    refine gq_iald hC hW k0.1 (k0.2 (gfm s0) T B (μ a0)) (t0 := 0) rfl e7 hi8 dX6_highestPlace_12 ?_
    refine lv_aload_n hx hb dX6_highestPlace_13 rfl (lv_at hl 0 rfl) ?_
    refine lv_iload_n hx hb dX6_highestPlace_14 rfl (lv_at hl 1 rfl) ?_
    obtain ⟨v9, e10, hi11, h⟩ := ag_o h
    refine gq_iald hC hW k0.1 (k0.2 (gfm s0) T B (μ a0)) (t0 := 0) rfl e10 hi11 dX6_highestPlace_15 ?_
    obtain ⟨j13, hj15, h⟩ := jn1_o h
    have J14 : ∀ (y12 : Int32), j13 y12 = some r → ∀ (H : Heap) (locs : List Loc) (ls : Array Slot), gWC s0 D T B μ H → va_S (gA B X) s.heap H locs → lv_has ls 3 [(0, .ref (B + a0)), (1, .int y12), (2, .int x2)] → W p l e rmX6_highestPlace s m args below meth c H locs 0 0 Q (F0 m 21 ls []) := by
      clear h hW hS hl
      intro y12 h H locs ls hW hS hl
      replace h := (hj15 y12).symm.trans h
      obtain ⟨v16, e17, h⟩ := lt_out h
      refine lv_iinc (v := v16) (lv' := [(2, .int v16), (0, .ref (B + a0)), (1, .int y12)]) hx hb dX6_highestPlace_21 hl (k := 2) rfl (by rw [e17]; rfl) (by decide) rfl (fun ls hl => ?_)
      refine lv_goto (tgt := 4) hx hb dX6_highestPlace_24 (by decide) ?_
      exact IH4 _ _ h _ _ _ hW hS (lv_sub hl [1, 2, 0] rfl)
    refine lv_icmp_le (tgt := 21) hx hb dX6_highestPlace_16 (by decide) (fun c18 => ?_) (fun c18 => ?_)
    · replace h := ite_t c18 h
      exact J14 _ h _ _ _ hW hS (lv_sub hl [0, 1, 2] rfl)
    · replace h := ite_f c18 h
      refine lv_iload_n hx hb dX6_highestPlace_19 rfl (lv_at hl 2 rfl) ?_
      refine lv_istore_n (lv' := [(1, .int x2), (0, .ref (B + a0)), (2, .int x2)]) hx hb dX6_highestPlace_20 rfl hl (by decide) rfl (fun ls hl => ?_)
      exact J14 _ h _ _ _ hW hS (lv_sub hl [1, 0, 2] rfl)

abbrev rmX6_beside : Room := { frames := 2, cells := 0, slots := 0, locals := 60 }
set_option maxHeartbeats 4000000 in
set_option maxRecDepth 100000 in
theorem metX6_beside {l : Launch} {s0 : State} {b B : Nat} {D : va_G} {T : Nat → ClassId} (F : FX l s0 b D T B) {X : Nat → Prop} (hX : ∀ o, o < 560 → ¬ X (B + o)) {N : Nat} {μ : Mem} {a0 : Int32} {a1 : Int32} {r : Int32}  (h : fX6_beside N μ a0 a1 = some r) : gMet l yX6_beside cX6_beside 4 (some .int) rmX6_beside [.int a0, .int a1] (gWC s0 D T B μ) (KC s0 X) (some (.int r)) (gWC s0 D T B μ) (gA B X) 0 0 := by
  refine gI_of RX6 (by decide +kernel) rfl (Nat.le_of_ble_eq_true rfl) ?_
  intro p e s m args below meth c ls Q hx hb hlocks hml hown hts hW hk hl hS hend
  have hC := FX_C F hk hx hb hown hts
  have hA := gA_all hX
  have hl : lv_has ls 4 [(0, .int a0), (1, .int a1)] := hl
  unfold fX6_beside at h
  refine lv_iload_n hx hb dX6_beside_0 rfl (lv_at hl 0 rfl) ?_
  refine lv_iconst (v := 4) hx hb dX6_beside_1 (by decide) ?_
  refine lv_irem hx hb dX6_beside_2 (by decide) ?_
  obtain ⟨v1, e2, h⟩ := lt_out h
  rw [← e2]
  refine lv_istore_n (lv' := [(2, .int v1), (0, .int a0), (1, .int a1)]) hx hb dX6_beside_3 rfl hl (by decide) rfl (fun ls hl => ?_)
  refine lv_iload_n hx hb dX6_beside_4 rfl (lv_at hl 1 rfl) ?_
  refine lv_iconst (v := 4) hx hb dX6_beside_5 (by decide) ?_
  refine lv_idiv hx hb dX6_beside_6 (by decide) ?_
  obtain ⟨v3, e4, h⟩ := lt_out h
  rw [← e4]
  refine lv_istore_n (lv' := [(3, .int v3), (2, .int v1), (0, .int a0), (1, .int a1)]) hx hb dX6_beside_7 rfl hl (by decide) rfl (fun ls hl => ?_)
  refine lv_iload_n hx hb dX6_beside_8 rfl (lv_at hl 3 rfl) ?_
  by_cases c5 : a1 = 0
  · replace h := ite_t c5 h
    refine lv_tableIn (tgt := 36) (off := 27) hx hb dX6_beside_9 (by rw [c5]; decide) (by rw [c5]; decide) (by rw [c5]; rfl) (by decide) ?_
    refine lv_iload_n hx hb dX6_beside_36 rfl (lv_at hl 1 rfl) ?_
    obtain ⟨j7, hj9, h⟩ := jn1_o h
    have J8 : ∀ (y6 : Int32), j7 y6 = some r → ∀ (H : Heap) (locs : List Loc) (ls : Array Slot), gWC s0 D T B μ H → va_S (gA B X) s.heap H locs → lv_has ls 4 [] → W p l e rmX6_beside s m args below meth c H locs 0 0 Q (F0 m 47 ls [.int y6]) := by
      clear h hW hS hl
      intro y6 h H locs ls hW hS hl
      replace h := (hj9 y6).symm.trans h
      cases h
      exact hend dX6_beside_47 hW hS (Nat.le_of_ble_eq_true rfl) (Nat.le_of_ble_eq_true rfl)
    refine lv_if_le (tgt := 46) hx hb dX6_beside_37 (by decide) (fun c10 => ?_) (fun c10 => ?_)
    · replace h := ite_t c10 h
      refine lv_iconst (v := (-1)) hx hb dX6_beside_46 (by decide) ?_
      exact J8 _ h _ _ _ hW hS (lv_sub hl [] rfl)
    · replace h := ite_f c10 h
      refine lv_iload_n hx hb dX6_beside_40 rfl (lv_at hl 2 rfl) ?_
      refine lv_iconst (v := 1) hx hb dX6_beside_41 (by decide) ?_
      refine lv_isub hx hb dX6_beside_42 ?_
      refine lv_goto (tgt := 47) hx hb dX6_beside_43 (by decide) ?_
      exact J8 _ h _ _ _ hW hS (lv_sub hl [] rfl)
  replace h := ite_f c5 h
  by_cases c11 : a1 = 1
  · replace h := ite_t c11 h
    refine lv_tableIn (tgt := 48) (off := 39) hx hb dX6_beside_9 (by rw [c11]; decide) (by rw [c11]; decide) (by rw [c11]; rfl) (by decide) ?_
    refine lv_iload_n hx hb dX6_beside_48 rfl (lv_at hl 1 rfl) ?_
    refine lv_iconst (v := 3) hx hb dX6_beside_49 (by decide) ?_
    obtain ⟨j13, hj15, h⟩ := jn1_o h
    have J14 : ∀ (y12 : Int32), j13 y12 = some r → ∀ (H : Heap) (locs : List Loc) (ls : Array Slot), gWC s0 D T B μ H → va_S (gA B X) s.heap H locs → lv_has ls 4 [] → W p l e rmX6_beside s m args below meth c H locs 0 0 Q (F0 m 60 ls [.int y12]) := by
      clear h hW hS hl
      intro y12 h H locs ls hW hS hl
      replace h := (hj15 y12).symm.trans h
      cases h
      exact hend dX6_beside_60 hW hS (Nat.le_of_ble_eq_true rfl) (Nat.le_of_ble_eq_true rfl)
    refine lv_icmp_ge (tgt := 59) hx hb dX6_beside_50 (by decide) (fun c16 => ?_) (fun c16 => ?_)
    · replace h := ite_t c16 h
      refine lv_iconst (v := (-1)) hx hb dX6_beside_59 (by decide) ?_
      exact J14 _ h _ _ _ hW hS (lv_sub hl [] rfl)
    · replace h := ite_f c16 h
      refine lv_iload_n hx hb dX6_beside_53 rfl (lv_at hl 2 rfl) ?_
      refine lv_iconst (v := 1) hx hb dX6_beside_54 (by decide) ?_
      refine lv_iadd hx hb dX6_beside_55 ?_
      refine lv_goto (tgt := 60) hx hb dX6_beside_56 (by decide) ?_
      exact J14 _ h _ _ _ hW hS (lv_sub hl [] rfl)
  replace h := ite_f c11 h
  by_cases c17 : a1 = 2
  · replace h := ite_t c17 h
    refine lv_tableIn (tgt := 61) (off := 52) hx hb dX6_beside_9 (by rw [c17]; decide) (by rw [c17]; decide) (by rw [c17]; rfl) (by decide) ?_
    refine lv_iload_n hx hb dX6_beside_61 rfl (lv_at hl 0 rfl) ?_
    obtain ⟨j19, hj21, h⟩ := jn1_o h
    have J20 : ∀ (y18 : Int32), j19 y18 = some r → ∀ (H : Heap) (locs : List Loc) (ls : Array Slot), gWC s0 D T B μ H → va_S (gA B X) s.heap H locs → lv_has ls 4 [] → W p l e rmX6_beside s m args below meth c H locs 0 0 Q (F0 m 72 ls [.int y18]) := by
      clear h hW hS hl
      intro y18 h H locs ls hW hS hl
      replace h := (hj21 y18).symm.trans h
      cases h
      exact hend dX6_beside_72 hW hS (Nat.le_of_ble_eq_true rfl) (Nat.le_of_ble_eq_true rfl)
    refine lv_if_le (tgt := 71) hx hb dX6_beside_62 (by decide) (fun c22 => ?_) (fun c22 => ?_)
    · replace h := ite_t c22 h
      refine lv_iconst (v := (-1)) hx hb dX6_beside_71 (by decide) ?_
      exact J20 _ h _ _ _ hW hS (lv_sub hl [] rfl)
    · replace h := ite_f c22 h
      refine lv_iload_n hx hb dX6_beside_65 rfl (lv_at hl 2 rfl) ?_
      refine lv_iconst (v := 4) hx hb dX6_beside_66 (by decide) ?_
      refine lv_isub hx hb dX6_beside_67 ?_
      refine lv_goto (tgt := 72) hx hb dX6_beside_68 (by decide) ?_
      exact J20 _ h _ _ _ hW hS (lv_sub hl [] rfl)
  replace h := ite_f c17 h
  refine lv_tableOut (tgt := 73) hx hb dX6_beside_9 (sw_out (lo := 0) (hi := 2) (fun k h1 h2 => by rcases (show k = 0 ∨ k = 1 ∨ k = 2 by omega) with rfl | rfl | rfl <;> assumption)) (by decide) ?_
  refine lv_iload_n hx hb dX6_beside_73 rfl (lv_at hl 0 rfl) ?_
  refine lv_iconst (v := 3) hx hb dX6_beside_74 (by decide) ?_
  obtain ⟨j24, hj26, h⟩ := jn1_o h
  have J25 : ∀ (y23 : Int32), j24 y23 = some r → ∀ (H : Heap) (locs : List Loc) (ls : Array Slot), gWC s0 D T B μ H → va_S (gA B X) s.heap H locs → lv_has ls 4 [] → W p l e rmX6_beside s m args below meth c H locs 0 0 Q (F0 m 85 ls [.int y23]) := by
    clear h hW hS hl
    intro y23 h H locs ls hW hS hl
    replace h := (hj26 y23).symm.trans h
    cases h
    exact hend dX6_beside_85 hW hS (Nat.le_of_ble_eq_true rfl) (Nat.le_of_ble_eq_true rfl)
  refine lv_icmp_ge (tgt := 84) hx hb dX6_beside_75 (by decide) (fun c27 => ?_) (fun c27 => ?_)
  · replace h := ite_t c27 h
    refine lv_iconst (v := (-1)) hx hb dX6_beside_84 (by decide) ?_
    exact J25 _ h _ _ _ hW hS (lv_sub hl [] rfl)
  · replace h := ite_f c27 h
    refine lv_iload_n hx hb dX6_beside_78 rfl (lv_at hl 2 rfl) ?_
    refine lv_iconst (v := 4) hx hb dX6_beside_79 (by decide) ?_
    refine lv_iadd hx hb dX6_beside_80 ?_
    refine lv_goto (tgt := 85) hx hb dX6_beside_81 (by decide) ?_
    exact J25 _ h _ _ _ hW hS (lv_sub hl [] rfl)

abbrev rmX8_hasExhibit : Room := { frames := 2, cells := 0, slots := 0, locals := 60 }
set_option maxHeartbeats 4000000 in
set_option maxRecDepth 100000 in
theorem metX8_hasExhibit {l : Launch} {s0 : State} {b B : Nat} {D : va_G} {T : Nat → ClassId} (F : FX l s0 b D T B) {X : Nat → Prop} (hX : ∀ o, o < 560 → ¬ X (B + o)) {N : Nat} {μ : Mem} {a0 : Nat} {a1 : Int32} {r : Bool} (k0 : IsSt a0) (h : fX8_hasExhibit N μ a0 a1 = some r) : gMet l yX8_hasExhibit cX8_hasExhibit 2 (some .boolean) rmX8_hasExhibit [.ref (B + a0), .int a1] (gWC s0 D T B μ) (KC s0 X) (some (.int (b2i r))) (gWC s0 D T B μ) (gA B X) 0 0 := by
  refine gZ_of RX8 (by decide +kernel) rfl (Nat.le_of_ble_eq_true rfl) ?_
  intro p e s m args below meth c ls Q hx hb hlocks hml hown hts hW hk hl hS hend
  have hC := FX_C F hk hx hb hown hts
  have hA := gA_all hX
  have hl : lv_has ls 2 [(0, .ref (B + a0)), (1, .int a1)] := hl
  unfold fX8_hasExhibit at h
  refine lv_iload_n hx hb dX8_hasExhibit_0 rfl (lv_at hl 1 rfl) ?_
  obtain ⟨j2, hj4, h⟩ := jn1_o h
  have J3 : ∀ (y1 : Bool), j2 y1 = some r → ∀ (H : Heap) (locs : List Loc) (ls : Array Slot), gWC s0 D T B μ H → va_S (gA B X) s.heap H locs → lv_has ls 2 [] → W p l e rmX8_hasExhibit s m args below meth c H locs 0 0 Q (F0 m 17 ls [.int (b2i y1)]) := by
    clear h hW hS hl
    intro y1 h H locs ls hW hS hl
    replace h := (hj4 y1).symm.trans h
    cases h
    exact hend dX8_hasExhibit_17 hW hS (Nat.le_of_ble_eq_true rfl) (Nat.le_of_ble_eq_true rfl)
  obtain ⟨j6, hj8, h⟩ := jn1_o h
  have J7 : ∀ (u5 : Unit), j6 u5 = some r → ∀ (H : Heap) (locs : List Loc) (ls : Array Slot), gWC s0 D T B μ H → va_S (gA B X) s.heap H locs → lv_has ls 2 [] → W p l e rmX8_hasExhibit s m args below meth c H locs 0 0 Q (F0 m 16 ls []) := by
    clear h hW hS hl
    intro u5 h H locs ls hW hS hl
    replace h := (hj8 u5).symm.trans h
    refine lv_iconst (v := 0) hx hb dX8_hasExhibit_16 (by decide) ?_
    exact J3 _ h _ _ _ hW hS (lv_sub hl [] rfl)
  refine lv_if_lt (tgt := 16) hx hb dX8_hasExhibit_1 (by decide) (fun c9 => ?_) (fun c9 => ?_)
  · replace h := ite_t c9 h
    exact J7 _ h _ _ _ hW hS (lv_sub hl [] rfl)
  · replace h := ite_f c9 h
    refine lv_iload_n hx hb dX8_hasExhibit_4 rfl (lv_at hl 1 rfl) ?_
    refine lv_aload_n hx hb dX8_hasExhibit_5 rfl (lv_at hl 0 rfl) ?_
    refine gw_get (v := .int (μ a0 4)) hC hW fl_X8_40.1 k0.1 (k0.2.1 (gfm s0) T B (μ a0)) rfl dX8_hasExhibit_6 ?_
    refine lv_icmp_ge (tgt := 16) hx hb dX8_hasExhibit_9 (by decide) (fun c10 => ?_) (fun c10 => ?_)
    · replace h := ite_t c10 h
      exact J7 _ h _ _ _ hW hS (lv_sub hl [] rfl)
    · replace h := ite_f c10 h
      refine lv_iconst (v := 1) hx hb dX8_hasExhibit_12 (by decide) ?_
      refine lv_goto (tgt := 17) hx hb dX8_hasExhibit_13 (by decide) ?_
      exact J3 _ h _ _ _ hW hS (lv_sub hl [] rfl)

abbrev rmX8_roomIndexFault : Room := { frames := 2, cells := 0, slots := 0, locals := 60 }
set_option maxHeartbeats 4000000 in
set_option maxRecDepth 100000 in
theorem metX8_roomIndexFault {l : Launch} {s0 : State} {b B : Nat} {D : va_G} {T : Nat → ClassId} (F : FX l s0 b D T B) {X : Nat → Prop} (hX : ∀ o, o < 560 → ¬ X (B + o)) {N : Nat} {μ : Mem} {a0 : Nat} {a1 : Int32} {r : Nat} (k0 : IsSt a0) (h : fX8_roomIndexFault N μ a0 a1 = some r) : gMet l yX8_roomIndexFault cX8_roomIndexFault 2 (some (.object "AvalancheGallery$Fault")) rmX8_roomIndexFault [.ref (B + a0), .int a1] (gWC s0 D T B μ) (KC s0 X) (some (.ref (gfa s0 r))) (gWC s0 D T B μ) (gA B X) 0 0 := by
  refine gR_of RX8 (by decide +kernel) rfl (Nat.le_of_ble_eq_true rfl) ?_
  intro p e s m args below meth c ls Q hx hb hlocks hml hown hts hW hk hl hS hend
  have hC := FX_C F hk hx hb hown hts
  have hA := gA_all hX
  have hl : lv_has ls 2 [(0, .ref (B + a0)), (1, .int a1)] := hl
  unfold fX8_roomIndexFault at h
  refine lv_iload_n hx hb dX8_roomIndexFault_0 rfl (lv_at hl 1 rfl) ?_
  obtain ⟨j2, hj4, h⟩ := jn1_o h
  have J3 : ∀ (y1 : Nat), j2 y1 = some r → ∀ (H : Heap) (locs : List Loc) (ls : Array Slot), gWC s0 D T B μ H → va_S (gA B X) s.heap H locs → lv_has ls 2 [] → W p l e rmX8_roomIndexFault s m args below meth c H locs 0 0 Q (F0 m 21 ls [.ref (gfa s0 y1)]) := by
    clear h hW hS hl
    intro y1 h H locs ls hW hS hl
    replace h := (hj4 y1).symm.trans h
    cases h
    exact hend dX8_roomIndexFault_21 hW hS (Nat.le_of_ble_eq_true rfl) (Nat.le_of_ble_eq_true rfl)
  obtain ⟨j6, hj8, h⟩ := jn1_o h
  have J7 : ∀ (u5 : Unit), j6 u5 = some r → ∀ (H : Heap) (locs : List Loc) (ls : Array Slot), gWC s0 D T B μ H → va_S (gA B X) s.heap H locs → lv_has ls 2 [] → W p l e rmX8_roomIndexFault s m args below meth c H locs 0 0 Q (F0 m 18 ls []) := by
    clear h hW hS hl
    intro u5 h H locs ls hW hS hl
    replace h := (hj8 u5).symm.trans h
    refine gw_gets hC (zF_1 F hk) hS fs_X8_59 dX8_roomIndexFault_18 ?_
    exact J3 _ h _ _ _ hW hS (lv_sub hl [] rfl)
  refine lv_if_lt (tgt := 18) hx hb dX8_roomIndexFault_1 (by decide) (fun c9 => ?_) (fun c9 => ?_)
  · replace h := ite_t c9 h
    exact J7 _ h _ _ _ hW hS (lv_sub hl [] rfl)
  · replace h := ite_f c9 h
    refine lv_iload_n hx hb dX8_roomIndexFault_4 rfl (lv_at hl 1 rfl) ?_
    refine lv_aload_n hx hb dX8_roomIndexFault_5 rfl (lv_at hl 0 rfl) ?_
    refine gw_get (v := .int (μ a0 0)) hC hW fl_X8_30.1 k0.1 (k0.2.1 (gfm s0) T B (μ a0)) rfl dX8_roomIndexFault_6 ?_
    refine lv_icmp_ge (tgt := 18) hx hb dX8_roomIndexFault_9 (by decide) (fun c10 => ?_) (fun c10 => ?_)
    · replace h := ite_t c10 h
      exact J7 _ h _ _ _ hW hS (lv_sub hl [] rfl)
    · replace h := ite_f c10 h
      refine gw_gets hC (zF_0 F hk) hS fs_X8_53 dX8_roomIndexFault_12 ?_
      refine lv_goto (tgt := 21) hx hb dX8_roomIndexFault_15 (by decide) ?_
      exact J3 _ h _ _ _ hW hS (lv_sub hl [] rfl)

abbrev rmX8_pairFault : Room := { frames := 3, cells := 0, slots := 0, locals := 81 }
set_option maxHeartbeats 4000000 in
set_option maxRecDepth 100000 in
theorem metX8_pairFault {l : Launch} {s0 : State} {b B : Nat} {D : va_G} {T : Nat → ClassId} (F : FX l s0 b D T B) {X : Nat → Prop} (hX : ∀ o, o < 560 → ¬ X (B + o)) {N : Nat} {μ : Mem} {a0 : Nat} {a1 : Int32} {a2 : Int32} {r : Nat} (k0 : IsSt a0) (h : fX8_pairFault N μ a0 a1 a2 = some r) : gMet l yX8_pairFault cX8_pairFault 3 (some (.object "AvalancheGallery$Fault")) rmX8_pairFault [.ref (B + a0), .int a1, .int a2] (gWC s0 D T B μ) (KC s0 X) (some (.ref (gfa s0 r))) (gWC s0 D T B μ) (gA B X) 0 0 := by
  refine gR_of RX8 (by decide +kernel) rfl (Nat.le_of_ble_eq_true rfl) ?_
  intro p e s m args below meth c ls Q hx hb hlocks hml hown hts hW hk hl hS hend
  have hC := FX_C F hk hx hb hown hts
  have hA := gA_all hX
  have hl : lv_has ls 3 [(0, .ref (B + a0)), (1, .int a1), (2, .int a2)] := hl
  unfold fX8_pairFault at h
  refine lv_aload_n hx hb dX8_pairFault_0 rfl (lv_at hl 0 rfl) ?_
  refine lv_iload_n hx hb dX8_pairFault_1 rfl (lv_at hl 1 rfl) ?_
  obtain ⟨r1, hcall, h⟩ := bd_out h
  refine g0_callV (As := [.int a1]) hC hml hS hW (KC_at hk hS F.2.2.2.2) KC_blind (metX8_roomIndexFault F hX k0 hcall) ml_X8_62 (gw_recv hC hW k0.1 (k0.2.1 (gfm s0) T B (μ a0)) rfl) ⟨rfl, rfl, Nat.le_of_ble_eq_true rfl, Nat.le_of_ble_eq_true rfl⟩ rfl hl.1 rfl (Nat.le_of_ble_eq_true rfl) dX8_pairFault_2 ⟨Nat.le_of_ble_eq_true rfl, Nat.le_of_ble_eq_true rfl⟩ (fun H locs hW hS => ?_)
  refine gw_gets hC (zF_0 F hk) hS fs_X8_53 dX8_pairFault_5 ?_
  obtain ⟨j3, hj5, h⟩ := jn1_o h
  have J4 : ∀ (y2 : Nat), j3 y2 = some r → ∀ (H : Heap) (locs : List Loc) (ls : Array Slot), gWC s0 D T B μ H → va_S (gA B X) s.heap H locs → lv_has ls 3 [] → W p l e rmX8_pairFault s m args below meth c H locs 0 0 Q (F0 m 22 ls [.ref (gfa s0 y2)]) := by
    clear h hW hS hl
    intro y2 h H locs ls hW hS hl
    replace h := (hj5 y2).symm.trans h
    cases h
    exact hend dX8_pairFault_22 hW hS (Nat.le_of_ble_eq_true rfl) (Nat.le_of_ble_eq_true rfl)
  refine gw_anF (tgt := 19) F hx hb dX8_pairFault_8 (by decide) (fun c6 => ?_) (fun c6 => ?_)
  · replace h := ite_f c6 h
    refine gw_gets hC (zF_1 F hk) hS fs_X8_59 dX8_pairFault_19 ?_
    exact J4 _ h _ _ _ hW hS (lv_sub hl [] rfl)
  · replace h := ite_t c6 h
    refine lv_aload_n hx hb dX8_pairFault_11 rfl (lv_at hl 0 rfl) ?_
    refine lv_iload_n hx hb dX8_pairFault_12 rfl (lv_at hl 2 rfl) ?_
    obtain ⟨r7, hcall, h⟩ := bd_out h
    refine g0_callV (As := [.int a2]) hC hml hS hW (KC_at hk hS F.2.2.2.2) KC_blind (metX8_roomIndexFault F hX k0 hcall) ml_X8_62 (gw_recv hC hW k0.1 (k0.2.1 (gfm s0) T B (μ a0)) rfl) ⟨rfl, rfl, Nat.le_of_ble_eq_true rfl, Nat.le_of_ble_eq_true rfl⟩ rfl hl.1 rfl (Nat.le_of_ble_eq_true rfl) dX8_pairFault_13 ⟨Nat.le_of_ble_eq_true rfl, Nat.le_of_ble_eq_true rfl⟩ (fun H locs hW hS => ?_)
    refine lv_goto (tgt := 22) hx hb dX8_pairFault_16 (by decide) ?_
    exact J4 _ h _ _ _ hW hS (lv_sub hl [] rfl)

abbrev rmX8_joins : Room := { frames := 2, cells := 0, slots := 0, locals := 60 }
set_option maxHeartbeats 4000000 in
set_option maxRecDepth 100000 in
theorem metX8_joins {l : Launch} {s0 : State} {b B : Nat} {D : va_G} {T : Nat → ClassId} (F : FX l s0 b D T B) {X : Nat → Prop} (hX : ∀ o, o < 560 → ¬ X (B + o)) {N : Nat} {μ : Mem} {a0 : Nat} {a1 : Int32} {a2 : Int32} {r : Bool} (k0 : IsSt a0) (h : fX8_joins N μ a0 a1 a2 = some r) : gMet l yX8_joins cX8_joins 3 (some .boolean) rmX8_joins [.ref (B + a0), .int a1, .int a2] (gWC s0 D T B μ) (KC s0 X) (some (.int (b2i r))) (gWC s0 D T B μ) (gA B X) 0 0 := by
  refine gZ_of RX8 (by decide +kernel) rfl (Nat.le_of_ble_eq_true rfl) ?_
  intro p e s m args below meth c ls Q hx hb hlocks hml hown hts hW hk hl hS hend
  have hC := FX_C F hk hx hb hown hts
  have hA := gA_all hX
  have hl : lv_has ls 3 [(0, .ref (B + a0)), (1, .int a1), (2, .int a2)] := hl
  unfold fX8_joins at h
  refine lv_aload_n hx hb dX8_joins_0 rfl (lv_at hl 0 rfl) ?_
  refine gw_get (v := .ref (B + (a0 + 2))) hC hW fl_X8_17 k0.1 (k0.2.1 (gfm s0) T B (μ a0)) rfl dX8_joins_1 ?_
  refine lv_iload_n hx hb dX8_joins_4 rfl (lv_at hl 1 rfl) ?_
  obtain ⟨q1, e2, hq3, hi4, h⟩ := ar_o h
  refine gq_aald hC hW k0.2.2.2.1.1 (k0.2.2.2.1.2.1 (gfm s0) T B (μ (a0 + 2))) (t0 := 3) rfl rfl e2 hi4 dX8_joins_5 ?_
  refine lv_iload_n hx hb dX8_joins_6 rfl (lv_at hl 2 rfl) ?_
  obtain ⟨v5, e6, hi7, h⟩ := ag_o h
  refine gq_iald hC hW (k0.2.2.2.1.2.2 q1 hq3).1 ((k0.2.2.2.1.2.2 q1 hq3).2 (gfm s0) T B (μ ((a0 + 2) + 1 + 1 * q1))) (t0 := 0) rfl e6 hi7 dX8_joins_7 ?_
  obtain ⟨j9, hj11, h⟩ := jn1_o h
  have J10 : ∀ (y8 : Bool), j9 y8 = some r → ∀ (H : Heap) (locs : List Loc) (ls : Array Slot), gWC s0 D T B μ H → va_S (gA B X) s.heap H locs → lv_has ls 3 [] → W p l e rmX8_joins s m args below meth c H locs 0 0 Q (F0 m 16 ls [.int (b2i y8)]) := by
    clear h hW hS hl
    intro y8 h H locs ls hW hS hl
    replace h := (hj11 y8).symm.trans h
    cases h
    exact hend dX8_joins_16 hW hS (Nat.le_of_ble_eq_true rfl) (Nat.le_of_ble_eq_true rfl)
  refine lv_if_le (tgt := 15) hx hb dX8_joins_8 (by decide) (fun c12 => ?_) (fun c12 => ?_)
  · replace h := ite_t c12 h
    refine lv_iconst (v := 0) hx hb dX8_joins_15 (by decide) ?_
    exact J10 _ h _ _ _ hW hS (lv_sub hl [] rfl)
  · replace h := ite_f c12 h
    refine lv_iconst (v := 1) hx hb dX8_joins_11 (by decide) ?_
    refine lv_goto (tgt := 16) hx hb dX8_joins_12 (by decide) ?_
    exact J10 _ h _ _ _ hW hS (lv_sub hl [] rfl)

abbrev rmX8_putRoom : Room := { frames := 2, cells := 0, slots := 0, locals := 60 }
set_option maxHeartbeats 4000000 in
set_option maxRecDepth 100000 in
theorem metX8_putRoom {l : Launch} {s0 : State} {b B : Nat} {D : va_G} {T : Nat → ClassId} (F : FX l s0 b D T B) {X : Nat → Prop} (hX : ∀ o, o < 560 → ¬ X (B + o)) {N : Nat} {μ : Mem} {a0 : Nat} {a1 : Int32} {r : Mem × Int32} (k0 : IsSt a0) (h : fX8_putRoom N μ a0 a1 = some r) : gMet l yX8_putRoom cX8_putRoom 2 (some .int) rmX8_putRoom [.ref (B + a0), .int a1] (gWC s0 D T B μ) (KC s0 X) (some (.int r.2)) (gWC s0 D T B r.1) (gA B X) 0 0 := by
  refine gI_of RX8 (by decide +kernel) rfl (Nat.le_of_ble_eq_true rfl) ?_
  intro p e s m args below meth c ls Q hx hb hlocks hml hown hts hW hk hl hS hend
  have hC := FX_C F hk hx hb hown hts
  have hA := gA_all hX
  have hl : lv_has ls 2 [(0, .ref (B + a0)), (1, .int a1)] := hl
  unfold fX8_putRoom at h
  refine lv_aload_n hx hb dX8_putRoom_0 rfl (lv_at hl 0 rfl) ?_
  refine gw_get (v := .ref (B + (a0 + 1))) hC hW fl_X8_9 k0.1 (k0.2.1 (gfm s0) T B (μ a0)) rfl dX8_putRoom_1 ?_
  refine lv_aload_n hx hb dX8_putRoom_4 rfl (lv_at hl 0 rfl) ?_
  refine gw_get (v := .int (μ a0 0)) hC hW fl_X8_30.1 k0.1 (k0.2.1 (gfm s0) T B (μ a0)) rfl dX8_putRoom_5 ?_
  refine lv_iload_n hx hb dX8_putRoom_8 rfl (lv_at hl 1 rfl) ?_
  obtain ⟨μ1, e2, hi3, h⟩ := aw_o h
  refine gq_iast hC hS hW hA k0.2.2.1.1 (k0.2.2.1.2 (gfm s0) T B) (t0 := 0) rfl e2 hi3 dX8_putRoom_9 (fun H locs hW hS => ?_)
  refine lv_aload_n hx hb dX8_putRoom_10 rfl (lv_at hl 0 rfl) ?_
  refine lv_dup hx hb dX8_putRoom_11 rfl ?_
  refine gw_get (v := .int (μ1 a0 0)) hC hW fl_X8_30.1 k0.1 (k0.2.1 (gfm s0) T B (μ1 a0)) rfl dX8_putRoom_12 ?_
  refine lv_iconst (v := 1) hx hb dX8_putRoom_15 (by decide) ?_
  refine lv_iadd hx hb dX8_putRoom_16 ?_
  obtain ⟨μ4, e5, h⟩ := lt_out h
  refine gq_put hC hS hW hA fl_X8_30 k0.1 (k0.2.1 (gfm s0) T B) (Nat.le_of_ble_eq_true rfl) rfl rfl rfl e5 dX8_putRoom_17 (fun H locs hW hS => ?_)
  refine lv_aload_n hx hb dX8_putRoom_20 rfl (lv_at hl 0 rfl) ?_
  refine gw_get (v := .int (μ4 a0 0)) hC hW fl_X8_30.1 k0.1 (k0.2.1 (gfm s0) T B (μ4 a0)) rfl dX8_putRoom_21 ?_
  refine lv_iconst (v := 1) hx hb dX8_putRoom_24 (by decide) ?_
  refine lv_isub hx hb dX8_putRoom_25 ?_
  cases h
  exact hend dX8_putRoom_26 hW hS (Nat.le_of_ble_eq_true rfl) (Nat.le_of_ble_eq_true rfl)
