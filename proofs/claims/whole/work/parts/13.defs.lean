def f_X11_cell (v0 : Int32) (v1 : Int32) : Option Int32 :=
  some ((v0 * 20) + v1)
def f_X0_plan_L74 (a1 : Nat) (v2 : Int32) (v4 : Int32) (v5 : Int32) (v6 : Int32) (v7 : Int32) (d : ya_D) (e132 : Int32 → Option (Int32 × ya_D)) : Nat → Int32 → Int32 → Option (Int32 × ya_D)
  | 0, _, _ => none
  | n + 1, v8, v9 =>
    if v9 < 0 then
      e132 v8
    else
    if v9 < (v7 - v5) then
      e132 v8
    else
    (f_X11_cell v4 v9).bind fun x100 =>
    (ya_rI d (a1 + 3) 100 x100).bind fun x103 =>
    (f_X11_cell v4 v8).bind fun x115 =>
    (ya_rI d (a1 + 3) 100 x115).bind fun x118 =>
    ya_j1 (fun (v8_126 : Int32) =>
      f_X0_plan_L74 a1 v2 v4 v5 v6 v7 d e132 n v8_126 (v9 + (-1))) fun k126 =>
    if x118 ≤ x103 then
      k126 v8
    else
    k126 v9
def f_X0_plan_L53 (a1 : Nat) (v2 : Int32) (v4 : Int32) (v5 : Int32) : Nat → Int32 → Int32 → ya_D → Option (Int32 × ya_D)
  | 0, _, _, _ => none
  | n + 1, v6, v7, d =>
    (ya_rI d (a1 + 16) 7 v2).bind fun x60 =>
    if x60 < v7 then
      some (v6, d)
    else
    f_X0_plan_L74 a1 v2 v4 v5 v6 v7 d (fun (v8_132 : Int32) =>
      (ya_rI d 80 20 v8_132).bind fun x139 =>
      (ya_rI d (a1 + 13) 7 v2).bind fun x145 =>
      (ya_wI d 80 20 v8_132 (x139 + x145)).bind fun d147 =>
      (ya_rI d147 (a1 + 13) 7 v2).bind fun x155 =>
      (f_X11_cell v4 v8_132).bind fun x167 =>
      (ya_rI d147 (a1 + 3) 100 x167).bind fun x170 =>
      f_X0_plan_L53 a1 v2 v4 v5 n (v6 + (x155 * x170)) (v7 + 1) d147) ya_F v7 (v7 - 1)
def f_X0_plan (a1 : Nat) (v2 : Int32) (d : ya_D) : Option (Int32 × ya_D) :=
  (ya_fI d 80 20 0).bind fun d5 =>
  (ya_rI d5 (a1 + 12) 7 v2).bind fun x18 =>
  (ya_rI d5 (a1 + 17) 7 v2).bind fun x26 =>
  (ya_rI d5 (a1 + 2) 5 x18).bind fun x36 =>
  (ya_rI d5 (a1 + 15) 7 v2).bind fun x50 =>
  f_X0_plan_L53 a1 v2 x18 (ya_min x26 x36) ya_F 0 x50 d5
def f_X1_add (a0 : Nat) (d : ya_D) : Option ya_D :=
  if 7 ≤ (d.1 a0 0) then
    some d
  else
  if 6 ≤ (6 : Int32) then
    (ya_rI d 23 6 0).bind fun x27 =>
    (ya_wI d (a0 + 1) 7 (d.1 a0 0) x27).bind fun d28 =>
    (ya_rI d28 23 6 1).bind fun x39 =>
    (ya_wI d28 (a0 + 2) 7 (d28.1 a0 0) x39).bind fun d40 =>
    (ya_rI d40 23 6 2).bind fun x51 =>
    (ya_wI d40 (a0 + 3) 7 (d40.1 a0 0) x51).bind fun d52 =>
    (ya_rI d52 23 6 3).bind fun x63 =>
    (ya_wI d52 (a0 + 4) 7 (d52.1 a0 0) x63).bind fun d64 =>
    (ya_rI d64 23 6 4).bind fun x75 =>
    (ya_wI d64 (a0 + 5) 7 (d64.1 a0 0) x75).bind fun d76 =>
    (ya_rI d76 23 6 5).bind fun x87 =>
    (ya_wI d76 (a0 + 6) 7 (d76.1 a0 0) x87).bind fun d88 =>
    (ya_pI d88 a0 0 ((d88.1 a0 0) + 1)).bind fun d96 =>
    some d96
  else
  some d
def f_X1_comes (a0 : Nat) (v1 : Int32) (v2 : Int32) (v3 : Int32) (v4 : Int32) (d : ya_D) : Option Int32 :=
  (ya_rI d (a0 + 1) 7 v1).bind fun x5 =>
  ya_j0 (
    some 0) fun k45 =>
  if x5 = v2 then
    (ya_rI d (a0 + 4) 7 v1).bind fun x15 =>
    if v3 < x15 then
      k45
    else
    (ya_rI d (a0 + 5) 7 v1).bind fun x26 =>
    if x26 < v3 then
      k45
    else
    (ya_rI d (a0 + 3) 7 v1).bind fun x35 =>
    if x35 < v4 then
      k45
    else
    some 1
  else
  k45
def f_X1_wanted_L6 (a0 : Nat) (v1 : Int32) (v2 : Int32) (v3 : Int32) (d : ya_D) : Nat → Int32 → Int32 → Option Int32
  | 0, _, _ => none
  | n + 1, v4, v5 =>
    if (d.1 a0 0) ≤ v5 then
      some v4
    else
    (f_X1_comes a0 v5 v1 v2 v3 d).bind fun x21 =>
    ya_j1 (fun (v4_39 : Int32) =>
      f_X1_wanted_L6 a0 v1 v2 v3 d n v4_39 (v5 + 1)) fun k39 =>
    if x21 = 0 then
      k39 v4
    else
    (ya_rI d (a0 + 2) 7 v5).bind fun x35 =>
    k39 (v4 + x35)
def f_X1_wanted (a0 : Nat) (v1 : Int32) (v2 : Int32) (v3 : Int32) (d : ya_D) : Option Int32 :=
  f_X1_wanted_L6 a0 v1 v2 v3 d ya_F 0 0
def f_X1_countComing_L6 (a0 : Nat) (v1 : Int32) (v2 : Int32) (v3 : Int32) (d : ya_D) : Nat → Int32 → Int32 → Option Int32
  | 0, _, _ => none
  | n + 1, v4, v5 =>
    if (d.1 a0 0) ≤ v5 then
      some v4
    else
    (f_X1_comes a0 v5 v1 v2 v3 d).bind fun x21 =>
    ya_j1 (fun (v4_30 : Int32) =>
      f_X1_countComing_L6 a0 v1 v2 v3 d n v4_30 (v5 + 1)) fun k30 =>
    if x21 = 0 then
      k30 v4
    else
    k30 (v4 + 1)
def f_X1_countComing (a0 : Nat) (v1 : Int32) (v2 : Int32) (v3 : Int32) (d : ya_D) : Option Int32 :=
  f_X1_countComing_L6 a0 v1 v2 v3 d ya_F 0 0
def f_X1_allCome_L3 (a0 : Nat) (v1 : Int32) (v2 : Int32) (v3 : Int32) (v4 : Int32) (d : ya_D) : Nat → Int32 → Option Int32
  | 0, _ => none
  | n + 1, v5 =>
    if (d.1 a0 0) ≤ v5 then
      some 1
    else
    ya_j0 (
      f_X1_allCome_L3 a0 v1 v2 v3 v4 d n (v5 + 1)) fun k37 =>
    if ((v1 >>> (v5 &&& 31)) &&& 1) = 1 then
      (f_X1_comes a0 v5 v2 v3 v4 d).bind fun x29 =>
      if x29 = 0 then
        some 0
      else
      k37
    else
    k37
def f_X1_allCome (a0 : Nat) (v1 : Int32) (v2 : Int32) (v3 : Int32) (v4 : Int32) (d : ya_D) : Option Int32 :=
  f_X1_allCome_L3 a0 v1 v2 v3 v4 d ya_F 0
def f_X1_wantsOf_L4 (a0 : Nat) (v1 : Int32) (d : ya_D) : Nat → Int32 → Int32 → Option Int32
  | 0, _, _ => none
  | n + 1, v2, v3 =>
    if (d.1 a0 0) ≤ v3 then
      some v2
    else
    ya_j1 (fun (v2_30 : Int32) =>
      f_X1_wantsOf_L4 a0 v1 d n v2_30 (v3 + 1)) fun k30 =>
    if ((v1 >>> (v3 &&& 31)) &&& 1) = 1 then
      (ya_rI d (a0 + 2) 7 v3).bind fun x27 =>
      k30 (v2 + x27)
    else
    k30 v2
def f_X1_wantsOf (a0 : Nat) (v1 : Int32) (d : ya_D) : Option Int32 :=
  f_X1_wantsOf_L4 a0 v1 d ya_F 0 0
def f_X1_wantsInAll (a0 : Nat) (v1 : Int32) (d : ya_D) : Option Int32 :=
  (ya_rI d (a0 + 2) 7 v1).bind fun x5 =>
  (ya_rI d (a0 + 5) 7 v1).bind fun x11 =>
  (ya_rI d (a0 + 4) 7 v1).bind fun x17 =>
  some (x5 * ((x11 - x17) + 1))
def f_X1_take (a0 : Nat) (a1 : Nat) (d : ya_D) : Option ya_D :=
  (ya_pI d a0 0 (d.1 a1 0)).bind fun d5 =>
  (ya_kI d5 (a1 + 1) 7 0 (a0 + 1) 7 0 7).bind fun d23 =>
  (ya_kI d23 (a1 + 2) 7 0 (a0 + 2) 7 0 7).bind fun d41 =>
  (ya_kI d41 (a1 + 3) 7 0 (a0 + 3) 7 0 7).bind fun d59 =>
  (ya_kI d59 (a1 + 4) 7 0 (a0 + 4) 7 0 7).bind fun d77 =>
  (ya_kI d77 (a1 + 5) 7 0 (a0 + 5) 7 0 7).bind fun d95 =>
  (ya_kI d95 (a1 + 6) 7 0 (a0 + 6) 7 0 7).bind fun d113 =>
  some d113
def f_X2_empty (a0 : Nat) (d : ya_D) : Option ya_D :=
  (ya_pI d a0 0 0).bind fun d2 =>
  (ya_pI d2 a0 1 0).bind fun d7 =>
  (ya_pI d7 a0 2 0).bind fun d12 =>
  (ya_pI d12 (a0 + 1) 0 0).bind fun d20 =>
  (ya_pI d20 (a0 + 6) 0 0).bind fun d28 =>
  (ya_pI d28 (a0 + 11) 0 0).bind fun d36 =>
  some d36
def f_X8_take (a0 : Nat) (a1 : Nat) (d : ya_D) : Option ya_D :=
  (ya_pI d a0 0 (d.1 a1 0)).bind fun d5 =>
  (ya_kI d5 (a1 + 1) 5 0 (a0 + 1) 5 0 5).bind fun d23 =>
  (ya_kI d23 (a1 + 2) 100 0 (a0 + 2) 100 0 100).bind fun d41 =>
  (ya_kI d41 (a1 + 3) 100 0 (a0 + 3) 100 0 100).bind fun d59 =>
  (ya_kI d59 (a1 + 4) 100 0 (a0 + 4) 100 0 100).bind fun d77 =>
  some d77
def f_X6_take (a0 : Nat) (a1 : Nat) (d : ya_D) : Option ya_D :=
  (ya_pI d a0 0 (d.1 a1 0)).bind fun d5 =>
  (ya_kI d5 (a1 + 1) 5 0 (a0 + 1) 5 0 5).bind fun d23 =>
  (ya_kI d23 (a1 + 2) 5 0 (a0 + 2) 5 0 5).bind fun d41 =>
  (ya_kI d41 (a1 + 3) 5 0 (a0 + 3) 5 0 5).bind fun d59 =>
  (ya_kI d59 (a1 + 4) 100 0 (a0 + 4) 100 0 100).bind fun d77 =>
  some d77
def f_X2_take (a0 : Nat) (a1 : Nat) (d : ya_D) : Option ya_D :=
  (ya_pI d a0 0 (d.1 a1 0)).bind fun d5 =>
  (ya_pI d5 a0 1 (d5.1 a1 1)).bind fun d13 =>
  (ya_pI d13 a0 2 (d13.1 a1 2)).bind fun d21 =>
  (f_X8_take (a0 + 1) (a1 + 1) d21).bind fun d32 =>
  (f_X6_take (a0 + 6) (a1 + 6) d32).bind fun d43 =>
  (f_X1_take (a0 + 11) (a1 + 11) d43).bind fun d54 =>
  some d54
def f_X3_formOf (v0 : Int32) : Option Nat :=
  if v0 = 0 then
    some 0
  else
  if v0 = 1 then
    some 1
  else
  if v0 = 2 then
    some 2
  else
  if v0 = 3 then
    some 3
  else
  if v0 = 4 then
    some 4
  else
  if v0 = 5 then
    some 5
  else
  if v0 = 6 then
    some 6
  else
  some 7
def f_X9_begin (d : ya_D) : Option ya_D :=
  (ya_pI d 22 2 0).bind fun d2 =>
  some d2
def f_X9_isBlank (v0 : Int32) : Option Int32 :=
  ya_j0 (
    some 1) fun k12 =>
  if v0 = 32 then
    k12
  else
  if v0 = 10 then
    k12
  else
  some 0
def f_X9_isLetter (v0 : Int32) : Option Int32 :=
  ya_j0 (
    some 0) fun k16 =>
  if v0 < 97 then
    k16
  else
  if 122 < v0 then
    k16
  else
  some 1
def f_X9_isDigit (v0 : Int32) : Option Int32 :=
  ya_j0 (
    some 0) fun k16 =>
  if v0 < 48 then
    k16
  else
  if 57 < v0 then
    k16
  else
  some 1
def f_X9_next_L13 (e46 : ya_D → Option ya_D) : Nat → Int32 → ya_D → Option ya_D
  | 0, _, _ => none
  | n + 1, v2, d =>
    if (d.1 1 1) ≤ v2 then
      e46 d
    else
    (ya_rI d 2 2000 v2).bind fun x26 =>
    (f_X9_isBlank x26).bind fun x27 =>
    if x27 = 0 then
      e46 d
    else
    (ya_pI d 22 1 (v2 + 1)).bind fun d37 =>
    f_X9_next_L13 e46 n (v2 + 1) d37
def f_X9_next_L156 (e215 : ya_D → Option ya_D) : Nat → Int32 → ya_D → Option ya_D
  | 0, _, _ => none
  | n + 1, v3, d =>
    if (d.1 1 1) ≤ v3 then
      e215 d
    else
    (ya_rI d 2 2000 v3).bind fun x169 =>
    (f_X9_isDigit x169).bind fun x170 =>
    if x170 = 0 then
      e215 d
    else
    (ya_rI d 2 2000 v3).bind fun x191 =>
    (ya_pI d 22 3 (ya_min 1000000 ((((10 : Int32) * (d.1 22 3)) + x191) - 48))).bind fun d199 =>
    (ya_pI d199 22 2 (v3 + 1)).bind fun d206 =>
    f_X9_next_L156 e215 n (v3 + 1) d206
def f_X9_next_L103 (e136 : ya_D → Option ya_D) : Nat → Int32 → ya_D → Option ya_D
  | 0, _, _ => none
  | n + 1, v3, d =>
    if (d.1 1 1) ≤ v3 then
      e136 d
    else
    (ya_rI d 2 2000 v3).bind fun x116 =>
    (f_X9_isLetter x116).bind fun x117 =>
    if x117 = 0 then
      e136 d
    else
    (ya_pI d 22 2 (v3 + 1)).bind fun d127 =>
    f_X9_next_L103 e136 n (v3 + 1) d127
def f_X9_next (d : ya_D) : Option ya_D :=
  (ya_pI d 22 1 (d.1 22 2)).bind fun d5 =>
  f_X9_next_L13  (fun (d_46 : ya_D) =>
    (ya_pI d_46 22 2 (d_46.1 22 1)).bind fun d51 =>
    (ya_pI d51 22 3 0).bind fun d56 =>
    if (d56.1 22 1) < (d56.1 1 1) then
      (ya_rI d56 2 2000 (d56.1 22 1)).bind fun x84 =>
      (f_X9_isLetter x84).bind fun x87 =>
      if x87 = 0 then
        (f_X9_isDigit x84).bind fun x140 =>
        if x140 = 0 then
          (ya_pI d56 22 0 3).bind fun d220 =>
          (ya_pI d220 22 2 ((d220.1 22 1) + 1)).bind fun d230 =>
          some d230
        else
        (ya_pI d56 22 0 2).bind fun d148 =>
        f_X9_next_L156  (fun (d_215 : ya_D) =>
          some d_215) ya_F (d148.1 22 1) d148
      else
      (ya_pI d56 22 0 1).bind fun d95 =>
      f_X9_next_L103  (fun (d_136 : ya_D) =>
        some d_136) ya_F (d95.1 22 1) d95
    else
    (ya_pI d56 22 0 0).bind fun d72 =>
    some d72) ya_F (d5.1 22 2) d5
def f_X9_isAs_L30 (s2 : Nat) (v3 : Int32) (v4 : Int32) (d : ya_D) : Nat → Int32 → Option Int32
  | 0, _ => none
  | n + 1, v5 =>
    if (v4 - v3) ≤ v5 then
      some 1
    else
    (ya_rI d 2 2000 ((d.1 22 1) + v5)).bind fun x50 =>
    (ya_sc s2 (v3 + v5)).bind fun x56 =>
    if x50 = x56 then
      f_X9_isAs_L30 s2 v3 v4 d n (v5 + 1)
    else
    some 0
def f_X9_isAs (s2 : Nat) (v3 : Int32) (v4 : Int32) (d : ya_D) : Option Int32 :=
  if ((d.1 22 2) - (d.1 22 1)) = (v4 - v3) then
    (ya_sl s2).bind fun x19 =>
    if v4 ≤ x19 then
      f_X9_isAs_L30 s2 v3 v4 d ya_F 0
    else
    some 0
  else
  some 0
def f_X3_kindHere_L2 (d : ya_D) : Nat → Int32 → Option Int32
  | 0, _ => none
  | n + 1, v2 =>
    if 8 ≤ v2 then
      some (-1)
    else
    (f_X3_formOf v2).bind fun x9 =>
    (ya_sx x9 32).bind fun x23 =>
    (f_X9_isAs x9 0 x23 d).bind fun x26 =>
    if x26 = 0 then
      f_X3_kindHere_L2 d n (v2 + 1)
    else
    some v2
def f_X3_kindHere (d : ya_D) : Option Int32 :=
  f_X3_kindHere_L2 d ya_F 0
def f_X3_refuse (v1 : Int32) (d : ya_D) : Option ya_D :=
  (ya_pI d 3 4 v1).bind fun d2 =>
  (ya_pI d2 3 5 (d2.1 22 1)).bind fun d13 =>
  some d13
def f_X3_isFull (v1 : Int32) (d : ya_D) : Option Int32 :=
  if v1 = 1 then
    if (d.1 5 0) < 5 then
      some 0
    else
    some 1
  else
  if v1 = 4 then
    if (d.1 10 0) < 5 then
      some 0
    else
    some 1
  else
  if v1 = 6 then
    if (d.1 15 0) < 7 then
      some 0
    else
    some 1
  else
  some 0
def f_X3_lowestOf (v1 : Int32) (d : ya_D) : Option Int32 :=
  if v1 = 76 then
    if (d.1 3 3) ≤ 0 then
      some 0
    else
    (ya_rI d 23 6 ((d.1 3 3) - 1)).bind fun x57 =>
    some x57
  else
  if v1 = 87 then
    some 1
  else
  if v1 = 89 then
    some 4
  else
  some 0
def f_X3_highestOf (v1 : Int32) (d : ya_D) : Option Int32 :=
  if v1 = 68 then
    some ((d.1 4 1) - 1)
  else
  if v1 = 69 then
    some 99
  else
  if v1 = 70 then
    some 99
  else
  if v1 = 71 then
    some 99
  else
  if v1 = 72 then
    some 99
  else
  if v1 = 73 then
    some 99
  else
  if v1 = 74 then
    some 99
  else
  if v1 = 75 then
    some 30
  else
  if v1 = 76 then
    some ((d.1 4 1) - 1)
  else
  if v1 = 77 then
    some 99
  else
  if v1 = 78 then
    some 99
  else
  if v1 = 79 then
    some 99
  else
  if v1 = 80 then
    some 99
  else
  if v1 = 81 then
    some 99
  else
  if v1 = 82 then
    some 99
  else
  if v1 = 83 then
    some ((d.1 10 0) - 1)
  else
  if v1 = 84 then
    some ((d.1 5 0) - 1)
  else
  if v1 = 85 then
    some 99
  else
  if v1 = 86 then
    some 99
  else
  if v1 = 87 then
    some 9
  else
  if v1 = 88 then
    some 99
  else
  if v1 = 89 then
    some 20
  else
  some 99
def f_X3_readNumber (v1 : Int32) (d : ya_D) : Option ya_D :=
  if (d.1 22 0) = 2 then
    (f_X3_lowestOf v1 d).bind fun x28 =>
    ya_j0 (
      (f_X3_refuse 2 d).bind fun d51 =>
      some d51) fun k49 =>
    if (d.1 22 3) < x28 then
      k49
    else
    (f_X3_highestOf v1 d).bind fun x43 =>
    if (d.1 22 3) ≤ x43 then
      if 6 ≤ (d.1 3 3) then
        some d
      else
      (ya_wI d 23 6 (d.1 3 3) (d.1 22 3)).bind fun d84 =>
      (ya_pI d84 3 3 ((d84.1 3 3) + 1)).bind fun d92 =>
      some d92
    else
    k49
  else
  (f_X3_refuse 1 d).bind fun d13 =>
  some d13
def f_X3_readPart (s2 : Nat) (v3 : Int32) (v4 : Int32) (d : ya_D) : Option ya_D :=
  (f_X9_next d).bind fun d5 =>
  (ya_sl s2).bind fun x10 =>
  ya_j1 (fun (t0_26 : Int32) =>
    ya_j0 (
      (f_X9_isAs s2 v3 v4 d5).bind fun x60 =>
      if x60 = 0 then
        (f_X3_refuse 1 d5).bind fun d68 =>
        some d68
      else
      some d5) fun k51 =>
    if t0_26 < 65 then
      k51
    else
    if 90 < t0_26 then
      k51
    else
    (f_X3_readNumber t0_26 d5).bind fun d45 =>
    some d45) fun k26 =>
  if x10 ≤ v3 then
    k26 32
  else
  (ya_sc s2 v3).bind fun x18 =>
  k26 x18
def f_X3_readForm_L17 (s2 : Nat) : Nat → Int32 → Int32 → ya_D → Option ya_D
  | 0, _, _, _ => none
  | n + 1, v3, v4, d =>
    (ya_sl s2).bind fun x20 =>
    if x20 < v4 then
      some d
    else
    if (d.1 3 4) = 0 then
      (ya_sl s2).bind fun x36 =>
      ya_j2 (fun (v3_67 : Int32) (d_67 : ya_D) =>
        f_X3_readForm_L17 s2 n v3_67 (v4 + 1) d_67) fun k67 =>
      ya_j0 (
        (f_X3_readPart s2 v3 v4 d).bind fun d59 =>
        k67 (v4 + 1) d59) fun k53 =>
      if v4 = x36 then
        k53
      else
      (ya_sc s2 v4).bind fun x45 =>
      if x45 = 32 then
        k53
      else
      k67 v3 d
    else
    some d
def f_X3_readForm (s2 : Nat) (d : ya_D) : Option ya_D :=
  (ya_pI d 3 3 0).bind fun d2 =>
  (ya_sx s2 32).bind fun x8 =>
  f_X3_readForm_L17 s2 ya_F (x8 + 1) (x8 + 1) d2
def f_X8_add_L21 (a0 : Nat) (v1 : Int32) (e75 : ya_D → Option ya_D) : Nat → Int32 → ya_D → Option ya_D
  | 0, _, _ => none
  | n + 1, v3, d =>
    if 20 ≤ v3 then
      e75 d
    else
    (f_X11_cell (d.1 a0 0) v3).bind fun x36 =>
    (ya_wI d (a0 + 2) 100 x36 v1).bind fun d40 =>
    (f_X11_cell (d40.1 a0 0) v3).bind fun x50 =>
    (ya_wI d40 (a0 + 3) 100 x50 v1).bind fun d54 =>
    (f_X11_cell (d54.1 a0 0) v3).bind fun x64 =>
    (ya_wI d54 (a0 + 4) 100 x64 (-1)).bind fun d68 =>
    f_X8_add_L21 a0 v1 e75 n (v3 + 1) d68
def f_X8_add (a0 : Nat) (v1 : Int32) (v2 : Int32) (d : ya_D) : Option ya_D :=
  if (d.1 a0 0) < 5 then
    (ya_wI d (a0 + 1) 5 (d.1 a0 0) v2).bind fun d18 =>
    f_X8_add_L21 a0 v1 (fun (d_75 : ya_D) =>
      (ya_pI d_75 a0 0 ((d_75.1 a0 0) + 1)).bind fun d82 =>
      some d82) ya_F 0 d18
  else
  some d
def f_X6_add_L42 (a0 : Nat) (e70 : ya_D → Option ya_D) : Nat → Int32 → ya_D → Option ya_D
  | 0, _, _ => none
  | n + 1, v4, d =>
    if 20 ≤ v4 then
      e70 d
    else
    (f_X11_cell (d.1 a0 0) v4).bind fun x59 =>
    (ya_wI d (a0 + 4) 100 x59 0).bind fun d63 =>
    f_X6_add_L42 a0 e70 n (v4 + 1) d63
def f_X6_add (a0 : Nat) (v1 : Int32) (v2 : Int32) (v3 : Int32) (d : ya_D) : Option ya_D :=
  if (d.1 a0 0) < 5 then
    (ya_wI d (a0 + 1) 5 (d.1 a0 0) v1).bind fun d18 =>
    (ya_wI d18 (a0 + 2) 5 (d18.1 a0 0) v2).bind fun d28 =>
    (ya_wI d28 (a0 + 3) 5 (d28.1 a0 0) v3).bind fun d38 =>
    f_X6_add_L42 a0 (fun (d_70 : ya_D) =>
      (ya_pI d_70 a0 0 ((d_70.1 a0 0) + 1)).bind fun d77 =>
      some d77) ya_F 0 d38
  else
  some d
def f_X3_obey (v1 : Int32) (d : ya_D) : Option ya_D :=
  if v1 = 0 then
    (ya_rI d 23 6 0).bind fun x53 =>
    (ya_pI d 4 1 x53).bind fun d54 =>
    (ya_pI d54 4 2 99).bind fun d63 =>
    some d63
  else
  if v1 = 1 then
    (ya_rI d 23 6 0).bind fun x81 =>
    (ya_rI d 23 6 1).bind fun x87 =>
    (f_X8_add 5 x81 x87 d).bind fun d88 =>
    some d88
  else
  if v1 = 2 then
    (ya_rI d 23 6 0).bind fun x109 =>
    (ya_rI d 23 6 1).bind fun x115 =>
    (f_X11_cell x109 x115).bind fun x116 =>
    (ya_rI d 23 6 2).bind fun x124 =>
    (ya_wI d 7 100 x116 x124).bind fun d125 =>
    some d125
  else
  if v1 = 3 then
    (ya_rI d 23 6 0).bind fun x144 =>
    (ya_rI d 23 6 1).bind fun x150 =>
    (f_X11_cell x144 x150).bind fun x151 =>
    (ya_rI d 23 6 2).bind fun x159 =>
    (ya_wI d 8 100 x151 x159).bind fun d160 =>
    some d160
  else
  if v1 = 4 then
    (ya_rI d 23 6 0).bind fun x176 =>
    (ya_rI d 23 6 1).bind fun x182 =>
    (ya_rI d 23 6 2).bind fun x188 =>
    (f_X6_add 10 x176 x182 x188 d).bind fun d189 =>
    some d189
  else
  if v1 = 5 then
    (ya_rI d 23 6 0).bind fun x210 =>
    (ya_rI d 23 6 1).bind fun x216 =>
    (f_X11_cell x210 x216).bind fun x217 =>
    (ya_rI d 23 6 2).bind fun x225 =>
    (ya_wI d 14 100 x217 x225).bind fun d226 =>
    some d226
  else
  if v1 = 6 then
    (f_X1_add 15 d).bind fun d241 =>
    some d241
  else
  (ya_rI d 23 6 0).bind fun x256 =>
  (ya_pI d 4 2 x256).bind fun d257 =>
  some d257
def f_X3_readLine (d : ya_D) : Option ya_D :=
  (f_X3_kindHere d).bind fun x2 =>
  ya_j1 (fun (t0_21 : Int32) =>
    ya_j0 (
      (f_X3_refuse 1 d).bind fun d42 =>
      some d42) fun k40 =>
    if x2 = (-1) then
      k40
    else
    ya_j1 (fun (t0_37 : Int32) =>
      if t0_21 = t0_37 then
        (f_X3_isFull x2 d).bind fun x48 =>
        if x48 = 0 then
          (f_X3_formOf x2).bind fun x63 =>
          (f_X3_readForm x63 d).bind fun d66 =>
          if (d66.1 3 4) = 0 then
            (ya_pI d66 4 0 ((d66.1 4 0) + 1)).bind fun d86 =>
            (f_X3_obey x2 d86).bind fun d91 =>
            some d91
          else
          some d66
        else
        (f_X3_refuse 3 d).bind fun d56 =>
        some d56
      else
      k40) fun k37 =>
    if x2 = 0 then
      k37 1
    else
    k37 0) fun k21 =>
  if (d.1 4 0) = 0 then
    k21 1
  else
  k21 0
def f_X3_readAll_L26  : Nat → Int32 → ya_D → Option (Int32 × ya_D)
  | 0, _, _ => none
  | n + 1, v2, d =>
    if 2000 < v2 then
      some (1, d)
    else
    (f_X9_next d).bind fun d38 =>
    if (d38.1 22 0) = 0 then
      some (1, d38)
    else
    (f_X3_readLine d38).bind fun d55 =>
    if (d55.1 3 4) = 0 then
      f_X3_readAll_L26  n (v2 + 1) d55
    else
    some (0, d55)
def f_X3_readAll (d : ya_D) : Option (Int32 × ya_D) :=
  (f_X2_empty 4 d).bind fun d4 =>
  (f_X9_begin d4).bind fun d11 =>
  (ya_pI d11 3 4 0).bind fun d16 =>
  (ya_pI d16 3 5 (-1)).bind fun d21 =>
  f_X3_readAll_L26  ya_F 0 d21
def f_X4_begin (a0 : Nat) (v1 : Int32) (v2 : Int32) (d : ya_D) : Option ya_D :=
  (ya_pI d a0 1 v1).bind fun d2 =>
  (ya_pI d2 a0 2 v2).bind fun d7 =>
  (ya_fL d7 (a0 + 1) 60 0).bind fun d15 =>
  some d15
def f_X4_put (a0 : Nat) (v1 : Int32) (v2 : Int64) (d : ya_D) : Option ya_D :=
  if (d.1 a0 1) = 0 then
    (ya_wL d (a0 + 1) 60 v1 ((((v2).toInt32).toInt8.toInt32).toInt64)).bind fun d41 =>
    some d41
  else
  if (d.1 a0 1) = 1 then
    (ya_wL d (a0 + 1) 60 v1 ((((v2).toInt32).toInt16.toInt32).toInt64)).bind fun d54 =>
    some d54
  else
  if (d.1 a0 1) = 2 then
    (ya_wL d (a0 + 1) 60 v1 (((v2).toInt32).toInt64)).bind fun d66 =>
    some d66
  else
  (ya_wL d (a0 + 1) 60 v1 v2).bind fun d76 =>
  some d76
def f_X4_reaches (a0 : Nat) (v1 : Int32) (v2 : Int32) (d : ya_D) : Option Int32 :=
  ya_j0 (
    some 0) fun k30 =>
  if v1 < 0 then
    k30
  else
  if v2 < 0 then
    k30
  else
  if (d.1 a0 2) < v1 then
    k30
  else
  if ((d.1 a0 2) - v1) < v2 then
    k30
  else
  some 1
def f_X6_coming (a0 : Nat) (v1 : Int32) (v2 : Int32) (d : ya_D) : Option Int32 :=
  (f_X11_cell v1 v2).bind fun x6 =>
  (ya_rI d (a0 + 4) 100 x6).bind fun x9 =>
  ya_j1 (fun (t0_24 : Int32) =>
    some (x9 + t0_24)) fun k24 =>
  if v2 = 0 then
    (ya_rI d (a0 + 2) 5 v1).bind fun x19 =>
    k24 x19
  else
  k24 0
def f_X5_load_L34 (a1 : Nat) (v2 : Int32) (v3 : Int32) : Nat → Int32 → ya_D → Option ya_D
  | 0, _, _ => none
  | n + 1, v4, d =>
    if (d.1 72 6) ≤ v4 then
      some d
    else
    (f_X11_cell v3 v4).bind fun x59 =>
    (ya_rI d (a1 + 3) 100 x59).bind fun x62 =>
    (ya_wI d 73 20 v4 x62).bind fun d63 =>
    (ya_rI d63 73 20 v4).bind fun x83 =>
    (f_X1_wanted (a1 + 11) v3 v4 x83 d63).bind fun x84 =>
    (ya_wI d63 74 20 v4 x84).bind fun d87 =>
    (f_X6_coming (a1 + 6) v2 v4 d87).bind fun x101 =>
    (ya_wI d87 75 20 v4 x101).bind fun d104 =>
    f_X5_load_L34 a1 v2 v3 n (v4 + 1) d104
def f_X5_load (a1 : Nat) (v2 : Int32) (d : ya_D) : Option ya_D :=
  (ya_rI d (a1 + 7) 5 v2).bind fun x8 =>
  (ya_pI d 72 6 (d.1 a1 1)).bind fun d15 =>
  (ya_rI d15 (a1 + 2) 5 x8).bind fun x27 =>
  (ya_pI d15 72 7 x27).bind fun d28 =>
  f_X5_load_L34 a1 v2 x8 ya_F 0 d28
def f_X5_orderDays_L37 (v1 : Int32) (v2 : Int32) (e88 : Int32 → ya_D → Option (Int32 × ya_D)) : Nat → Int32 → Int32 → ya_D → Option (Int32 × ya_D)
  | 0, _, _, _ => none
  | n + 1, v3, v4, d =>
    if v4 < 0 then
      e88 v3 d
    else
    (ya_rI d 78 20 v4).bind fun x52 =>
    (ya_rI d 73 20 x52).bind fun x53 =>
    (ya_rI d 73 20 v2).bind fun x59 =>
    if x59 ≤ x53 then
      e88 v3 d
    else
    (ya_rI d 78 20 v4).bind fun x77 =>
    (ya_wI d 78 20 (v4 + 1) x77).bind fun d78 =>
    f_X5_orderDays_L37 v1 v2 e88 n v4 (v4 + (-1)) d78
def f_X5_orderDays_L4  : Nat → Int32 → Int32 → ya_D → Option (Int32 × ya_D)
  | 0, _, _, _ => none
  | n + 1, v1, v2, d =>
    if (d.1 72 6) ≤ v2 then
      some (v1, d)
    else
    (ya_rI d 73 20 v2).bind fun x17 =>
    ya_j2 (fun (v1_98 : Int32) (d_98 : ya_D) =>
      f_X5_orderDays_L4  n v1_98 (v2 + 1) d_98) fun k98 =>
    if x17 ≤ 0 then
      k98 v1 d
    else
    (ya_rI d 74 20 v2).bind fun x26 =>
    if x26 ≤ 0 then
      k98 v1 d
    else
    f_X5_orderDays_L37 v1 v2 (fun (v3_88 : Int32) (d_88 : ya_D) =>
      (ya_wI d_88 78 20 v3_88 v2).bind fun d94 =>
      k98 (v1 + 1) d94) ya_F v1 (v1 - 1) d
def f_X5_orderDays (d : ya_D) : Option (Int32 × ya_D) :=
  f_X5_orderDays_L4  ya_F 0 0 d
def f_X5_missing_L46 (v1 : Int32) (v2 : Int32) (e92 : Int32 → ya_D → Option (Int32 × ya_D)) : Nat → Int32 → Int32 → ya_D → Option (Int32 × ya_D)
  | 0, _, _, _ => none
  | n + 1, v3, v4, d =>
    if v2 < v4 then
      e92 v3 d
    else
    if v3 ≤ 0 then
      e92 v3 d
    else
    (ya_rI d 77 20 v4).bind fun x63 =>
    (ya_rI d 77 20 v4).bind fun x76 =>
    (ya_wI d 77 20 v4 (x76 - (ya_min v3 x63))).bind fun d80 =>
    f_X5_missing_L46 v1 v2 e92 n (v3 - (ya_min v3 x63)) (v4 + 1) d80
def f_X5_missing_L19  : Nat → Int32 → Int32 → ya_D → Option (Int32 × ya_D)
  | 0, _, _, _ => none
  | n + 1, v1, v2, d =>
    if (d.1 72 6) ≤ v2 then
      some (v1, d)
    else
    (ya_rI d 76 20 v2).bind fun x32 =>
    f_X5_missing_L46 v1 v2 (fun (v3_92 : Int32) (d_92 : ya_D) =>
      f_X5_missing_L19  n (v1 + v3_92) (v2 + 1) d_92) ya_F x32 (ya_max 0 (v2 - (d.1 72 7))) d
def f_X5_missing (d : ya_D) : Option (Int32 × ya_D) :=
  (ya_kI d 75 20 0 77 20 0 20).bind fun d12 =>
  f_X5_missing_L19  ya_F 0 0 d12
def f_X5_bring_L17 (v1 : Int32) : Nat → Int32 → Int32 → ya_D → Option (Int32 × ya_D)
  | 0, _, _, _ => none
  | n + 1, v2, v3, d =>
    if v1 ≤ v3 then
      some (v2, d)
    else
    (ya_rI d 78 20 v3).bind fun x27 =>
    (ya_rI d 74 20 x27).bind fun x42 =>
    (ya_wI d 76 20 x27 x42).bind fun d43 =>
    (ya_rI d43 76 20 x27).bind fun x51 =>
    ya_b2 (f_X5_missing d43) fun x53 d53 =>
    (ya_wI d53 76 20 x27 (x51 - x53)).bind fun d57 =>
    (ya_rI d57 76 20 x27).bind fun x65 =>
    (ya_rI d57 73 20 x27).bind fun x72 =>
    f_X5_bring_L17 v1 n (v2 + (x65 * x72)) (v3 + 1) d57
def f_X5_bring (d : ya_D) : Option (Int32 × ya_D) :=
  (ya_fI d 76 20 0).bind fun d5 =>
  ya_b2 (f_X5_orderDays d5) fun x9 d9 =>
  f_X5_bring_L17 x9 ya_F 0 0 d9
def f_X5_bringWithout (v1 : Int32) (d : ya_D) : Option (Int32 × ya_D) :=
  (ya_rI d 74 20 v1).bind fun x5 =>
  (ya_wI d 74 20 v1 0).bind fun d13 =>
  ya_b2 (f_X5_bring d13) fun x15 d15 =>
  (ya_wI d15 74 20 v1 x5).bind fun d25 =>
  some (x15, d25)
def f_X5_bringAt (v1 : Int32) (v2 : Int32) (v3 : Int32) (d : ya_D) : Option (Int32 × ya_D) :=
  (ya_rI d 73 20 v1).bind fun x5 =>
  (ya_rI d 74 20 v1).bind fun x13 =>
  (ya_wI d 73 20 v1 v2).bind fun d22 =>
  (ya_wI d22 74 20 v1 v3).bind fun d29 =>
  ya_b2 (f_X5_bring d29) fun x31 d31 =>
  (ya_wI d31 73 20 v1 x5).bind fun d43 =>
  (ya_wI d43 74 20 v1 x13).bind fun d51 =>
  some (x31, d51)
def f_X7_addFour_L16 (v1 : Int32) : Nat → Int32 → ya_D → Option ya_D
  | 0, _, _ => none
  | n + 1, v2, d =>
    if v2 < 0 then
      some d
    else
    (ya_wI d 2 2000 (d.1 1 1) (vp_nar .char ((((((v1).toUInt32 >>> ((v2).toUInt32 &&& Int32.toUInt32 31)).toInt32) &&& 255).toUInt32 % 65536).toInt32))).bind fun d36 =>
    (ya_pI d36 1 1 ((d36.1 1 1) + 1)).bind fun d44 =>
    f_X7_addFour_L16 v1 n (v2 + (-8)) d44
def f_X7_addFour (v1 : Int32) (d : ya_D) : Option ya_D :=
  if ((d.1 1 1) + 4) ≤ 2000 then
    f_X7_addFour_L16 v1 ya_F 24 d
  else
  some d
def f_X8_turnYear_L2 (a0 : Nat) : Nat → Int32 → ya_D → Option ya_D
  | 0, _, _ => none
  | n + 1, v1, d =>
    if ((d.1 a0 0) * 20) ≤ v1 then
      some d
    else
    (ya_rI d (a0 + 2) 100 v1).bind fun x23 =>
    (ya_wI d (a0 + 3) 100 v1 x23).bind fun d24 =>
    (ya_rI d24 (a0 + 4) 100 v1).bind fun x30 =>
    ya_j1 (fun (d_47 : ya_D) =>
      (ya_wI d_47 (a0 + 4) 100 v1 (-1)).bind fun d53 =>
      f_X8_turnYear_L2 a0 n (v1 + 1) d53) fun k47 =>
    if x30 = (-1) then
      k47 d24
    else
    (ya_rI d24 (a0 + 4) 100 v1).bind fun x45 =>
    (ya_wI d24 (a0 + 2) 100 v1 x45).bind fun d46 =>
    k47 d46
def f_X8_turnYear (a0 : Nat) (d : ya_D) : Option ya_D :=
  f_X8_turnYear_L2 a0 ya_F 0 d
def f_X10_forget (a0 : Nat) (d : ya_D) : Option ya_D :=
  (ya_fI d (a0 + 4) 100 0).bind fun d5 =>
  (ya_fI d5 (a0 + 5) 100 0).bind fun d13 =>
  (ya_fI d13 (a0 + 8) 5 0).bind fun d21 =>
  (ya_fI d21 (a0 + 9) 5 0).bind fun d29 =>
  (ya_fI d29 (a0 + 10) 5 0).bind fun d37 =>
  (ya_fI d37 (a0 + 11) 5 0).bind fun d45 =>
  (ya_fI d45 (a0 + 12) 7 0).bind fun d53 =>
  (ya_fI d53 (a0 + 13) 7 0).bind fun d61 =>
  (ya_pI d61 a0 15 0).bind fun d66 =>
  some d66
def f_X10_begin (a0 : Nat) (a1 : Nat) (v2 : Int32) (v3 : Int32) (d : ya_D) : Option ya_D :=
  (ya_rI d (a1 + 7) 5 v2).bind fun x8 =>
  (ya_rI d (a1 + 2) 5 x8).bind fun x21 =>
  ya_j1 (fun (d_95 : ya_D) =>
    (f_X6_coming (a1 + 6) v2 v3 d_95).bind fun x101 =>
    (f_X11_cell v2 v3).bind fun x112 =>
    (ya_wI d_95 (a0 + 7) 100 x112 x101).bind fun d117 =>
    (ya_rI d117 (a0 + 8) 5 v2).bind fun x124 =>
    (ya_wI d117 (a0 + 8) 5 v2 (x124 + x101)).bind fun d128 =>
    some d128) fun k95 =>
  if ((v3 - x21) - 1) < 0 then
    k95 d
  else
  (f_X11_cell v2 ((v3 - x21) - 1)).bind fun x39 =>
  (ya_rI d (a0 + 7) 100 x39).bind fun x42 =>
  (f_X11_cell v2 ((v3 - x21) - 1)).bind fun x52 =>
  (ya_wI d (a0 + 7) 100 x52 0).bind fun d56 =>
  (ya_rI d56 (a0 + 8) 5 v2).bind fun x63 =>
  (ya_wI d56 (a0 + 8) 5 v2 (x63 - x42)).bind fun d67 =>
  (ya_rI d67 (a0 + 11) 5 v2).bind fun x74 =>
  (ya_wI d67 (a0 + 11) 5 v2 (x74 + x42)).bind fun d78 =>
  (f_X11_cell x8 v3).bind fun x86 =>
  (ya_rI d78 (a0 + 4) 100 x86).bind fun x90 =>
  (ya_wI d78 (a0 + 4) 100 x86 (x90 + x42)).bind fun d94 =>
  k95 d94
def f_X10_supplyAt_L6 (a0 : Nat) (a1 : Nat) (v2 : Int32) (v3 : Int32) (d : ya_D) : Nat → Int32 → Int32 → Option Int32
  | 0, _, _ => none
  | n + 1, v4, v5 =>
    if (d.1 a1 0) ≤ v5 then
      some v4
    else
    (ya_rI d (a1 + 1) 5 v5).bind fun x21 =>
    ya_j1 (fun (v4_49 : Int32) =>
      f_X10_supplyAt_L6 a0 a1 v2 v3 d n v4_49 (v5 + 1)) fun k49 =>
    if x21 = v2 then
      (ya_rI d (a1 + 3) 5 v5).bind fun x32 =>
      if v3 < x32 then
        k49 v4
      else
      (ya_rI d (a0 + 8) 5 v5).bind fun x45 =>
      k49 (v4 + x45)
    else
    k49 v4
def f_X10_supplyAt (a0 : Nat) (a1 : Nat) (v2 : Int32) (v3 : Int32) (d : ya_D) : Option Int32 :=
  f_X10_supplyAt_L6 a0 a1 v2 v3 d ya_F 0 0
def f_X10_gather_L8 (a0 : Nat) (a1 : Nat) (v2 : Int32) (v3 : Int32) (v4 : Int32) : Nat → Int32 → ya_D → Option ya_D
  | 0, _, _ => none
  | n + 1, v5, d =>
    if (d.1 a1 0) ≤ v5 then
      some d
    else
    (f_X1_comes a1 v5 v2 v3 v4 d).bind fun x24 =>
    ya_j1 (fun (d_51 : ya_D) =>
      f_X10_gather_L8 a0 a1 v2 v3 v4 n (v5 + 1) d_51) fun k51 =>
    if x24 = 0 then
      k51 d
    else
    (ya_wI d (a0 + 14) 7 (d.1 a0 14) v5).bind fun d40 =>
    (ya_pI d40 a0 14 ((d40.1 a0 14) + 1)).bind fun d48 =>
    k51 d48
def f_X10_gather (a0 : Nat) (a1 : Nat) (v2 : Int32) (v3 : Int32) (v4 : Int32) (d : ya_D) : Option ya_D :=
  (ya_pI d a0 14 0).bind fun d2 =>
  f_X10_gather_L8 a0 a1 v2 v3 v4 ya_F 0 d2
def f_X10_draw (a0 : Nat) (v1 : Int32) (d : ya_D) : Option (Int32 × ya_D) :=
  (ya_pL d a0 16 (((1103515245 * (d.2 a0 16)) + 12345) - ((1103515245 * (d.2 a0 16)) + 12345) / 2147483648 * 2147483648)).bind fun d17 =>
  if v1 ≤ 0 then
    some (0, d17)
  else
  (ya_lrm ((d17.2 a0 16) / 65536) ((v1).toInt64)).bind fun x34 =>
  some ((x34).toInt32, d17)
def f_X10_mix_L7 (a0 : Nat) : Nat → Int32 → ya_D → Option ya_D
  | 0, _, _ => none
  | n + 1, v1, d =>
    if v1 < 1 then
      some d
    else
    ya_b2 (f_X10_draw a0 (v1 + 1) d) fun x16 d16 =>
    (ya_rI d16 (a0 + 14) 7 v1).bind fun x25 =>
    (ya_rI d16 (a0 + 14) 7 x16).bind fun x37 =>
    (ya_wI d16 (a0 + 14) 7 v1 x37).bind fun d38 =>
    (ya_wI d38 (a0 + 14) 7 x16 x25).bind fun d45 =>
    f_X10_mix_L7 a0 n (v1 + (-1)) d45
def f_X10_mix (a0 : Nat) (d : ya_D) : Option ya_D :=
  f_X10_mix_L7 a0 ya_F ((d.1 a0 14) - 1) d
def f_X10_handOut_L6 (a0 : Nat) (a1 : Nat) (v3 : Int32) : Nat → Int32 → Int32 → ya_D → Option ya_D
  | 0, _, _, _ => none
  | n + 1, v4, v5, d =>
    if (d.1 a0 14) ≤ v5 then
      some d
    else
    (ya_rI d (a0 + 14) 7 v5).bind fun x21 =>
    (ya_rI d (a1 + 2) 7 x21).bind fun x32 =>
    (ya_rI d (a0 + 13) 7 x21).bind fun x45 =>
    (ya_wI d (a0 + 13) 7 x21 (x45 + (ya_min v4 x32))).bind fun d49 =>
    (ya_rI d49 (a0 + 12) 7 x21).bind fun x57 =>
    (ya_wI d49 (a0 + 12) 7 x21 (x57 + ((ya_min v4 x32) * v3))).bind fun d63 =>
    f_X10_handOut_L6 a0 a1 v3 n (v4 - (ya_min v4 x32)) (v5 + 1) d63
def f_X10_handOut (a0 : Nat) (a1 : Nat) (v2 : Int32) (v3 : Int32) (d : ya_D) : Option ya_D :=
  f_X10_handOut_L6 a0 a1 v3 ya_F v2 0 d
def f_X10_takeOldest_L6 (a0 : Nat) (v1 : Int32) (v2 : Int32) : Nat → Int32 → Int32 → ya_D → Option ya_D
  | 0, _, _, _ => none
  | n + 1, v4, v5, d =>
    if v2 < v5 then
      some d
    else
    if v4 ≤ 0 then
      some d
    else
    (f_X11_cell v1 v5).bind fun x26 =>
    (ya_rI d (a0 + 7) 100 x26).bind fun x29 =>
    (f_X11_cell v1 v5).bind fun x42 =>
    (ya_rI d (a0 + 7) 100 x42).bind fun x46 =>
    (ya_wI d (a0 + 7) 100 x42 (x46 - (ya_min v4 x29))).bind fun d50 =>
    f_X10_takeOldest_L6 a0 v1 v2 n (v4 - (ya_min v4 x29)) (v5 + 1) d50
def f_X10_takeOldest (a0 : Nat) (v1 : Int32) (v2 : Int32) (v3 : Int32) (d : ya_D) : Option ya_D :=
  f_X10_takeOldest_L6 a0 v1 v2 ya_F v3 0 d
def f_X10_sell_L7 (a0 : Nat) (a1 : Nat) (v2 : Int32) (v3 : Int32) (v5 : Int32) : Nat → Int32 → Int32 → ya_D → Option ya_D
  | 0, _, _, _ => none
  | n + 1, v6, v7, d =>
    if (d.1 a1 0) ≤ v7 then
      some d
    else
    (ya_rI d (a1 + 1) 5 v7).bind fun x22 =>
    ya_j2 (fun (v6_124 : Int32) (d_124 : ya_D) =>
      f_X10_sell_L7 a0 a1 v2 v3 v5 n v6_124 (v7 + 1) d_124) fun k124 =>
    if x22 = v2 then
      (ya_rI d (a1 + 3) 5 v7).bind fun x33 =>
      if v5 < x33 then
        k124 v6 d
      else
      (ya_rI d (a0 + 8) 5 v7).bind fun x47 =>
      (f_X10_takeOldest a0 v7 v3 (ya_min v6 x47) d).bind fun d59 =>
      (ya_rI d59 (a0 + 8) 5 v7).bind fun x69 =>
      (ya_wI d59 (a0 + 8) 5 v7 (x69 - (ya_min v6 x47))).bind fun d73 =>
      (ya_rI d73 (a0 + 10) 5 v7).bind fun x81 =>
      (ya_wI d73 (a0 + 10) 5 v7 (x81 + (ya_min v6 x47))).bind fun d85 =>
      (ya_rI d85 (a0 + 9) 5 v7).bind fun x93 =>
      (ya_wI d85 (a0 + 9) 5 v7 (x93 + ((ya_min v6 x47) * v5))).bind fun d100 =>
      (f_X11_cell v7 v3).bind fun x108 =>
      (ya_wI d100 (a0 + 5) 100 x108 ((ya_min v6 x47) * v5)).bind fun d116 =>
      k124 (v6 - (ya_min v6 x47)) d116
    else
    k124 v6 d
def f_X10_sell (a0 : Nat) (a1 : Nat) (v2 : Int32) (v3 : Int32) (v4 : Int32) (v5 : Int32) (d : ya_D) : Option ya_D :=
  f_X10_sell_L7 a0 a1 v2 v3 v5 ya_F v4 0 d
def f_X10_trade (a0 : Nat) (a1 : Nat) (v2 : Int32) (v3 : Int32) (d : ya_D) : Option ya_D :=
  (f_X11_cell v2 v3).bind fun x2 =>
  (ya_rI d (a1 + 3) 100 x2).bind fun x16 =>
  (f_X10_supplyAt a0 (a1 + 6) v2 x16 d).bind fun x33 =>
  (ya_wI d (a0 + 1) 100 x2 x33).bind fun d36 =>
  (f_X1_wanted (a1 + 11) v2 v3 x16 d36).bind fun x51 =>
  (ya_wI d36 (a0 + 2) 100 x2 x51).bind fun d54 =>
  (ya_rI d54 (a0 + 1) 100 x2).bind fun x67 =>
  (ya_rI d54 (a0 + 2) 100 x2).bind fun x74 =>
  (ya_wI d54 (a0 + 3) 100 x2 (ya_min x67 x74)).bind fun d78 =>
  (f_X10_gather a0 (a1 + 11) v2 v3 x16 d78).bind fun d88 =>
  (ya_rI d88 (a0 + 2) 100 x2).bind fun x97 =>
  (ya_rI d88 (a0 + 1) 100 x2).bind fun x104 =>
  ya_j1 (fun (d_122 : ya_D) =>
    (ya_rI d_122 (a0 + 1) 100 x2).bind fun x133 =>
    (f_X10_handOut a0 (a1 + 11) x133 x16 d_122).bind fun d136 =>
    (ya_rI d136 (a0 + 3) 100 x2).bind fun x152 =>
    (f_X10_sell a0 (a1 + 6) v2 v3 x152 x16 d136).bind fun d155 =>
    some d155) fun k122 =>
  if x97 ≤ x104 then
    k122 d88
  else
  (ya_pI d88 a0 15 ((d88.1 a0 15) + 1)).bind fun d115 =>
  (f_X10_mix a0 d115).bind fun d119 =>
  k122 d119
def f_X10_run_L23 (a0 : Nat) (a1 : Nat) (v3 : Int32) (e49 : ya_D → Option ya_D) : Nat → Int32 → ya_D → Option ya_D
  | 0, _, _ => none
  | n + 1, v4, d =>
    if (d.1 (a1 + 6) 0) ≤ v4 then
      e49 d
    else
    (f_X10_begin a0 a1 v4 v3 d).bind fun d40 =>
    f_X10_run_L23 a0 a1 v3 e49 n (v4 + 1) d40
def f_X10_run_L52 (a0 : Nat) (a1 : Nat) (v3 : Int32) (e78 : ya_D → Option ya_D) : Nat → Int32 → ya_D → Option ya_D
  | 0, _, _ => none
  | n + 1, v4, d =>
    if (d.1 (a1 + 1) 0) ≤ v4 then
      e78 d
    else
    (f_X10_trade a0 a1 v4 v3 d).bind fun d69 =>
    f_X10_run_L52 a0 a1 v3 e78 n (v4 + 1) d69
def f_X10_run_L81 (a0 : Nat) (a1 : Nat) (v3 : Int32) (e117 : ya_D → Option ya_D) : Nat → Int32 → ya_D → Option ya_D
  | 0, _, _ => none
  | n + 1, v4, d =>
    if (d.1 (a1 + 6) 0) ≤ v4 then
      e117 d
    else
    (f_X11_cell v4 v3).bind fun x100 =>
    (ya_rI d (a0 + 8) 5 v4).bind fun x109 =>
    (ya_wI d (a0 + 6) 100 x100 x109).bind fun d110 =>
    f_X10_run_L81 a0 a1 v3 e117 n (v4 + 1) d110
def f_X10_run_L12 (a0 : Nat) (a1 : Nat) : Nat → Int32 → ya_D → Option ya_D
  | 0, _, _ => none
  | n + 1, v3, d =>
    if (d.1 a1 1) ≤ v3 then
      some d
    else
    f_X10_run_L23 a0 a1 v3 (fun (d_49 : ya_D) =>
      f_X10_run_L52 a0 a1 v3 (fun (d_78 : ya_D) =>
        f_X10_run_L81 a0 a1 v3 (fun (d_117 : ya_D) =>
          f_X10_run_L12 a0 a1 n (v3 + 1) d_117) ya_F 0 d_78) ya_F 0 d_49) ya_F 0 d
def f_X10_run (a0 : Nat) (a1 : Nat) (v2 : Int32) (d : ya_D) : Option ya_D :=
  (f_X10_forget a0 d).bind fun d1 =>
  (ya_pL d1 a0 16 ((v2).toInt64)).bind fun d7 =>
  f_X10_run_L12 a0 a1 ya_F 0 d7
def f_X10_takings_L5 (a0 : Nat) (v1 : Int32) (v2 : Int32) (d : ya_D) : Nat → Int32 → Int32 → Option Int32
  | 0, _, _ => none
  | n + 1, v3, v4 =>
    if 5 ≤ v4 then
      some v3
    else
    ya_j1 (fun (v3_35 : Int32) =>
      f_X10_takings_L5 a0 v1 v2 d n v3_35 (v4 + 1)) fun k35 =>
    if ((v1 >>> (v4 &&& 31)) &&& 1) = 1 then
      (f_X11_cell v4 v2).bind fun x29 =>
      (ya_rI d (a0 + 5) 100 x29).bind fun x32 =>
      k35 (v3 + x32)
    else
    k35 v3
def f_X10_takings (a0 : Nat) (v1 : Int32) (v2 : Int32) (d : ya_D) : Option Int32 :=
  f_X10_takings_L5 a0 v1 v2 d ya_F 0 0
def f_X10_richestDay_L4 (a0 : Nat) (v1 : Int32) (d : ya_D) : Nat → Int32 → Int32 → Option Int32
  | 0, _, _ => none
  | n + 1, v2, v3 =>
    if 20 ≤ v3 then
      some v2
    else
    (f_X10_takings a0 v1 v3 d).bind fun x13 =>
    (f_X10_takings a0 v1 v2 d).bind fun x19 =>
    ya_j1 (fun (v2_27 : Int32) =>
      f_X10_richestDay_L4 a0 v1 d n v2_27 (v3 + 1)) fun k27 =>
    if x13 ≤ x19 then
      k27 v2
    else
    k27 v3
def f_X10_richestDay (a0 : Nat) (v1 : Int32) (d : ya_D) : Option Int32 :=
  f_X10_richestDay_L4 a0 v1 d ya_F 0 1
def f_X10_daysWithoutSale_L18 (a0 : Nat) (a1 : Nat) (v2 : Int32) (v3 : Int32) (d : ya_D) (e52 : Int32 → Option Int32) : Nat → Int32 → Int32 → Option Int32
  | 0, _, _ => none
  | n + 1, v4, v5 =>
    if (d.1 (a1 + 1) 0) ≤ v5 then
      e52 v4
    else
    (f_X11_cell v5 v3).bind fun x39 =>
    (ya_rI d (a0 + 3) 100 x39).bind fun x42 =>
    f_X10_daysWithoutSale_L18 a0 a1 v2 v3 d e52 n (v4 + x42) (v5 + 1)
def f_X10_daysWithoutSale_L4 (a0 : Nat) (a1 : Nat) (d : ya_D) : Nat → Int32 → Int32 → Option Int32
  | 0, _, _ => none
  | n + 1, v2, v3 =>
    if (d.1 a1 1) ≤ v3 then
      some v2
    else
    f_X10_daysWithoutSale_L18 a0 a1 v2 v3 d (fun (v4_52 : Int32) =>
      ya_j1 (fun (v2_60 : Int32) =>
        f_X10_daysWithoutSale_L4 a0 a1 d n v2_60 (v3 + 1)) fun k60 =>
      if v4_52 = 0 then
        k60 (v2 + 1)
      else
      k60 v2) ya_F 0 0
def f_X10_daysWithoutSale (a0 : Nat) (a1 : Nat) (d : ya_D) : Option Int32 :=
  f_X10_daysWithoutSale_L4 a0 a1 d ya_F 0 0
def f_X11_feed (v1 : Int32) (v2 : Int32) (v3 : Int32) (v4 : Int32) (v5 : Int32) (d : ya_D) : Option (Int32 × ya_D) :=
  if ((d.1 1 1) + 20) ≤ 2000 then
    (f_X7_addFour v1 d).bind fun d23 =>
    (f_X7_addFour v2 d23).bind fun d31 =>
    (f_X7_addFour v3 d31).bind fun d39 =>
    (f_X7_addFour v4 d39).bind fun d48 =>
    (f_X7_addFour v5 d48).bind fun d57 =>
    some (d57.1 1 1, d57)
  else
  some ((-1), d)
def f_X11_end (v1 : Int32) (d : ya_D) : Option (Int32 × ya_D) :=
  if v1 < 0 then
    some ((-1), d)
  else
  if v1 ≤ (d.1 1 1) then
    (ya_pI d 1 1 v1).bind fun d22 =>
    some (v1, d22)
  else
  some ((-1), d)
def f_X11_market (d : ya_D) : Option (Int32 × ya_D) :=
  ya_b2 (f_X3_readAll d) fun x8 d8 =>
  (ya_pI d8 1 1 0).bind fun d17 =>
  if x8 = 0 then
    some ((-4), d17)
  else
  (f_X2_take 24 4 d17).bind fun d38 =>
  (ya_pI d38 0 9 0).bind fun d43 =>
  some (d43.1 24 0, d43)
def f_X11_fault (v1 : Int32) (d : ya_D) : Option Int32 :=
  if v1 = 0 then
    some (d.1 3 4)
  else
  if v1 = 1 then
    some (d.1 3 5)
  else
  some (-1)
def f_X11_isThing (v1 : Int32) (d : ya_D) : Option Int32 :=
  ya_j0 (
    some 0) fun k22 =>
  if v1 < 0 then
    k22
  else
  if (d.1 25 0) ≤ v1 then
    k22
  else
  some 1
def f_X11_isDay (v1 : Int32) (d : ya_D) : Option Int32 :=
  ya_j0 (
    some 0) fun k19 =>
  if v1 < 0 then
    k19
  else
  if (d.1 24 1) ≤ v1 then
    k19
  else
  some 1
def f_X11_isThingDay (v1 : Int32) (v2 : Int32) (d : ya_D) : Option Int32 :=
  (f_X11_isThing v1 d).bind fun x2 =>
  ya_j0 (
    some 0) fun k20 =>
  if x2 = 0 then
    k20
  else
  (f_X11_isDay v2 d).bind fun x10 =>
  if x10 = 0 then
    k20
  else
  some 1
def f_X11_price (v1 : Int32) (v2 : Int32) (d : ya_D) : Option Int32 :=
  (f_X11_isThingDay v1 v2 d).bind fun x3 =>
  if x3 = 0 then
    some (-2)
  else
  (f_X11_cell v1 v2).bind fun x21 =>
  (ya_rI d 27 100 x21).bind fun x24 =>
  some x24
def f_X11_old (v1 : Int32) (v2 : Int32) (d : ya_D) : Option Int32 :=
  (f_X11_isThingDay v1 v2 d).bind fun x3 =>
  if x3 = 0 then
    some (-2)
  else
  (f_X11_cell v1 v2).bind fun x21 =>
  (ya_rI d 28 100 x21).bind fun x24 =>
  some x24
def f_X11_thisYear (d : ya_D) : Option ya_D :=
  ya_j1 (fun (d_24 : ya_D) =>
    some d_24) fun k24 =>
  if (d.1 0 9) = 0 then
    (f_X10_run 42 24 1 d).bind fun d16 =>
    (ya_pI d16 0 9 1).bind fun d21 =>
    k24 d21
  else
  k24 d
def f_X11_offered (v1 : Int32) (v2 : Int32) (d : ya_D) : Option (Int32 × ya_D) :=
  (f_X11_isThingDay v1 v2 d).bind fun x3 =>
  if x3 = 0 then
    some ((-2), d)
  else
  (f_X11_thisYear d).bind fun d10 =>
  (f_X11_cell v1 v2).bind fun x18 =>
  (ya_rI d10 43 100 x18).bind fun x21 =>
  some (x21, d10)
def f_X11_asked (v1 : Int32) (v2 : Int32) (d : ya_D) : Option (Int32 × ya_D) :=
  (f_X11_isThingDay v1 v2 d).bind fun x3 =>
  if x3 = 0 then
    some ((-2), d)
  else
  (f_X11_thisYear d).bind fun d10 =>
  (f_X11_cell v1 v2).bind fun x18 =>
  (ya_rI d10 44 100 x18).bind fun x21 =>
  some (x21, d10)
def f_X11_sold (v1 : Int32) (v2 : Int32) (d : ya_D) : Option (Int32 × ya_D) :=
  (f_X11_isThingDay v1 v2 d).bind fun x3 =>
  if x3 = 0 then
    some ((-2), d)
  else
  (f_X11_thisYear d).bind fun d10 =>
  (f_X11_cell v1 v2).bind fun x18 =>
  (ya_rI d10 45 100 x18).bind fun x21 =>
  some (x21, d10)
def f_X11_isSeller (v1 : Int32) (d : ya_D) : Option Int32 :=
  ya_j0 (
    some 0) fun k22 =>
  if v1 < 0 then
    k22
  else
  if (d.1 30 0) ≤ v1 then
    k22
  else
  some 1
def f_X11_seller (v1 : Int32) (v2 : Int32) (d : ya_D) : Option (Int32 × ya_D) :=
  (f_X11_isSeller v1 d).bind fun x2 =>
  if x2 = 0 then
    some ((-2), d)
  else
  (f_X11_thisYear d).bind fun d12 =>
  if v2 = 0 then
    (ya_rI d12 51 5 v1).bind fun x57 =>
    some (x57, d12)
  else
  if v2 = 1 then
    (ya_rI d12 52 5 v1).bind fun x64 =>
    some (x64, d12)
  else
  if v2 = 2 then
    (ya_rI d12 53 5 v1).bind fun x71 =>
    some (x71, d12)
  else
  if v2 = 3 then
    (ya_rI d12 50 5 v1).bind fun x78 =>
    some (x78, d12)
  else
  if v2 = 4 then
    (ya_rI d12 51 5 v1).bind fun x85 =>
    if x85 = 0 then
      some ((-1), d12)
    else
    (f_X10_richestDay 42 ((1 : Int32) <<< (v1 &&& 31)) d12).bind fun x97 =>
    some (x97, d12)
  else
  some ((-2), d12)
def f_X11_gets (v1 : Int32) (v2 : Int32) (d : ya_D) : Option (Int32 × ya_D) :=
  (f_X11_isSeller v1 d).bind fun x2 =>
  ya_j0 (
    some ((-2), d)) fun k32 =>
  if x2 = 0 then
    k32
  else
  (f_X11_isDay v2 d).bind fun x10 =>
  if x10 = 0 then
    k32
  else
  (f_X11_thisYear d).bind fun d17 =>
  (f_X11_cell v1 v2).bind fun x25 =>
  (ya_rI d17 47 100 x25).bind fun x28 =>
  some (x28, d17)
def f_X11_stock (v1 : Int32) (v2 : Int32) (d : ya_D) : Option (Int32 × ya_D) :=
  (f_X11_isSeller v1 d).bind fun x2 =>
  ya_j0 (
    some ((-2), d)) fun k32 =>
  if x2 = 0 then
    k32
  else
  (f_X11_isDay v2 d).bind fun x10 =>
  if x10 = 0 then
    k32
  else
  (f_X11_thisYear d).bind fun d17 =>
  (f_X11_cell v1 v2).bind fun x25 =>
  (ya_rI d17 48 100 x25).bind fun x28 =>
  some (x28, d17)
def f_X11_isBuyer (v1 : Int32) (d : ya_D) : Option Int32 :=
  ya_j0 (
    some 0) fun k22 =>
  if v1 < 0 then
    k22
  else
  if (d.1 35 0) ≤ v1 then
    k22
  else
  some 1
def f_X11_buyer (v1 : Int32) (v2 : Int32) (d : ya_D) : Option (Int32 × ya_D) :=
  (f_X11_isBuyer v1 d).bind fun x2 =>
  if x2 = 0 then
    some ((-2), d)
  else
  (f_X11_thisYear d).bind fun d12 =>
  if v2 = 0 then
    (ya_rI d12 54 7 v1).bind fun x49 =>
    some (x49, d12)
  else
  if v2 = 1 then
    (ya_rI d12 55 7 v1).bind fun x56 =>
    some (x56, d12)
  else
  if v2 = 2 then
    (f_X1_wantsInAll 35 v1 d12).bind fun x66 =>
    (ya_rI d12 55 7 v1).bind fun x74 =>
    some (x66 - x74, d12)
  else
  some ((-2), d12)
def f_X11_isMarket (d : ya_D) : Option Int32 :=
  if (d.1 24 0) ≤ 0 then
    some 0
  else
  some 1
def f_X11_rich (v1 : Int32) (d : ya_D) : Option (Int32 × ya_D) :=
  (f_X11_isMarket d).bind fun x1 =>
  if x1 = 0 then
    some ((-2), d)
  else
  (f_X11_thisYear d).bind fun d11 =>
  if v1 = 0 then
    (f_X10_daysWithoutSale 42 24 d11).bind fun x65 =>
    if x65 = (d11.1 24 1) then
      some ((-1), d11)
    else
    (f_X10_richestDay 42 (((1 : Int32) <<< ((d11.1 30 0) &&& 31)) - 1) d11).bind fun x84 =>
    some (x84, d11)
  else
  if v1 = 1 then
    (f_X10_richestDay 42 (((1 : Int32) <<< ((d11.1 30 0) &&& 31)) - 1) d11).bind fun x92 =>
    (f_X10_takings 42 (((1 : Int32) <<< ((d11.1 30 0) &&& 31)) - 1) x92 d11).bind fun x95 =>
    some (x95, d11)
  else
  if v1 = 2 then
    (f_X10_daysWithoutSale 42 24 d11).bind fun x104 =>
    some (x104, d11)
  else
  if v1 = 3 then
    some (d11.1 42 15, d11)
  else
  some ((-2), d11)
def f_X11_queue (v1 : Int32) (v2 : Int32) (d : ya_D) : Option (Int32 × ya_D) :=
  (f_X11_isThingDay v1 v2 d).bind fun x3 =>
  if x3 = 0 then
    some ((-2), d)
  else
  (f_X11_cell v1 v2).bind fun x14 =>
  (f_X11_thisYear d).bind fun d20 =>
  (ya_rI d20 44 100 x14).bind fun x27 =>
  (f_X11_thisYear d20).bind fun d29 =>
  (ya_rI d29 43 100 x14).bind fun x36 =>
  some (ya_max 0 (x27 - x36), d29)
def f_X11_spoils (v1 : Int32) (v2 : Int32) (d : ya_D) : Option (Int32 × ya_D) :=
  (f_X11_isThingDay v1 v2 d).bind fun x3 =>
  if x3 = 0 then
    some ((-2), d)
  else
  (f_X11_thisYear d).bind fun d10 =>
  (f_X11_cell v1 v2).bind fun x18 =>
  (ya_rI d10 46 100 x18).bind fun x21 =>
  some (x21, d10)
def f_X11_clears_L30 (v1 : Int32) (v2 : Int32) (v3 : Int32) (d : ya_D) : Nat → Int32 → Option (Int32 × ya_D)
  | 0, _ => none
  | n + 1, v4 =>
    if v4 < 0 then
      some ((-1), d)
    else
    (f_X1_wanted 35 v1 v2 v4 d).bind fun x46 =>
    if x46 < v3 then
      f_X11_clears_L30 v1 v2 v3 d n (v4 + (-1))
    else
    some (v4, d)
def f_X11_clears (v1 : Int32) (v2 : Int32) (d : ya_D) : Option (Int32 × ya_D) :=
  (f_X11_isThingDay v1 v2 d).bind fun x3 =>
  if x3 = 0 then
    some ((-2), d)
  else
  (f_X11_thisYear d).bind fun d13 =>
  (f_X11_cell v1 v2).bind fun x21 =>
  (ya_rI d13 43 100 x21).bind fun x24 =>
  f_X11_clears_L30 v1 v2 x24 d13 ya_F 99
def f_X11_village_L41 (v1 : Int32) (v2 : Int32) (d : ya_D) (e71 : Int32 → Option (Int32 × ya_D)) : Nat → Int32 → Int32 → Option (Int32 × ya_D)
  | 0, _, _ => none
  | n + 1, v4, v5 =>
    if (d.1 24 1) ≤ v5 then
      e71 v4
    else
    (f_X10_takings 42 v1 v5 d).bind fun x59 =>
    f_X11_village_L41 v1 v2 d e71 n (v4 + x59) (v5 + 1)
def f_X11_village (v1 : Int32) (v2 : Int32) (d : ya_D) : Option (Int32 × ya_D) :=
  (f_X11_isMarket d).bind fun x1 =>
  ya_j0 (
    some ((-2), d)) fun k27 =>
  if x1 = 0 then
    k27
  else
  if v1 < 0 then
    k27
  else
  if v1 < ((1 : Int32) <<< ((d.1 30 0) &&& 31)) then
    (f_X11_thisYear d).bind fun d31 =>
    f_X11_village_L41 v1 v2 d31 (fun (v4_71 : Int32) =>
      if v2 = 0 then
        if v4_71 = 0 then
          some ((-1), d31)
        else
        (f_X10_richestDay 42 v1 d31).bind fun x111 =>
        some (x111, d31)
      else
      if v2 = 1 then
        (f_X10_richestDay 42 v1 d31).bind fun x119 =>
        (f_X10_takings 42 v1 x119 d31).bind fun x122 =>
        some (x122, d31)
      else
      if v2 = 2 then
        some (v4_71, d31)
      else
      some ((-2), d31)) ya_F 0 0
  else
  k27
def f_X11_within (v0 : Int32) (v1 : Int32) (v2 : Int32) : Option Int32 :=
  ya_j0 (
    some 0) fun k14 =>
  if v0 < v1 then
    k14
  else
  if v2 < v0 then
    k14
  else
  some 1
def f_J6_bitCount_0f7a4 (v0 : Int32) : Option Int32 :=
  (some (v0 - ((((v0).toUInt32 >>> (((1 : Int32)).toUInt32 &&& Int32.toUInt32 31)).toInt32) &&& 1431655765))).bind fun w9 =>
  (some ((w9 &&& 858993459) + ((((w9).toUInt32 >>> (((2 : Int32)).toUInt32 &&& Int32.toUInt32 31)).toInt32) &&& 858993459))).bind fun w23 =>
  (some ((w23 + (((w23).toUInt32 >>> (((4 : Int32)).toUInt32 &&& Int32.toUInt32 31)).toInt32)) &&& 252645135)).bind fun w33 =>
  (some (w33 + (((w33).toUInt32 >>> (((8 : Int32)).toUInt32 &&& Int32.toUInt32 31)).toInt32))).bind fun w40 =>
  (some (w40 + (((w40).toUInt32 >>> (((16 : Int32)).toUInt32 &&& Int32.toUInt32 31)).toInt32))).bind fun w47 =>
  some (w47 &&& 63)
def f_X11_ordersWithAll_L37 (v1 : Int32) (v2 : Int32) (v3 : Int32) (v4 : Int32) (v6 : Int32) (v7 : Int32) (d : ya_D) : Nat → Int32 → Int32 → Option Int32
  | 0, _, _ => none
  | n + 1, v8, v9 =>
    if ((1 : Int32) <<< ((d.1 35 0) &&& 31)) ≤ v9 then
      some v8
    else
    (f_X1_allCome 35 v9 v6 v2 v3 d).bind fun x57 =>
    ya_j1 (fun (v8_139 : Int32) =>
      f_X11_ordersWithAll_L37 v1 v2 v3 v4 v6 v7 d n v8_139 (v9 + 1)) fun k139 =>
    if x57 = 0 then
      k139 v8
    else
    if ((v9 >>> (v1 &&& 31)) &&& 1) = 0 then
      (f_J6_bitCount_0f7a4 v9).bind fun x74 =>
      (f_X1_wantsOf 35 v9 d).bind fun x83 =>
      (ya_rI d 37 7 v1).bind fun x92 =>
      ya_j1 (fun (t0_104 : Int32) =>
        if t0_104 = 0 then
          k139 v8
        else
        if v7 < x74 then
          k139 v8
        else
        (ya_fr x74).bind fun x125 =>
        (ya_fr (v7 - x74)).bind fun x134 =>
        k139 (v8 + (x125 * x134))) fun k104 =>
      if v4 < (x83 + x92) then
        k104 0
      else
      k104 1
    else
    k139 v8
def f_X11_ordersWithAll (v1 : Int32) (v2 : Int32) (v3 : Int32) (v4 : Int32) (d : ya_D) : Option Int32 :=
  (ya_rI d 36 7 v1).bind fun x15 =>
  (f_X1_countComing 35 x15 v2 v3 d).bind fun x24 =>
  f_X11_ordersWithAll_L37 v1 v2 v3 v4 x15 (x24 - 1) d ya_F 0 0
def f_X11_commonDivisor_L7  : Nat → Int32 → Int32 → Int32 → Option Int32
  | 0, _, _, _ => none
  | n + 1, v2, v3, v4 =>
    if 100 ≤ v4 then
      some v2
    else
    if v3 = 0 then
      some v2
    else
    (ya_rm v2 v3).bind fun x20 =>
    f_X11_commonDivisor_L7  n v3 x20 (v4 + 1)
def f_X11_commonDivisor (v0 : Int32) (v1 : Int32) : Option Int32 :=
  f_X11_commonDivisor_L7  ya_F v0 v1 0
def f_X11_chance (v1 : Int32) (v2 : Int32) (v3 : Int32) (d : ya_D) : Option (Int32 × ya_D) :=
  (f_X11_isBuyer v1 d).bind fun x2 =>
  ya_j0 (
    some ((-2), d)) fun k25 =>
  if x2 = 0 then
    k25
  else
  (f_X11_isDay v2 d).bind fun x10 =>
  if x10 = 0 then
    k25
  else
  (f_X11_within v3 0 1).bind fun x19 =>
  if x19 = 0 then
    k25
  else
  (ya_rI d 36 7 v1).bind fun x39 =>
  (f_X11_cell x39 v2).bind fun x45 =>
  (ya_rI d 27 100 x45).bind fun x62 =>
  (f_X1_comes 35 v1 x39 v2 x62 d).bind fun x84 =>
  ya_j3 (fun (v7_135 : Int32) (v8_135 : Int32) (d_135 : ya_D) =>
    (f_X11_commonDivisor v7_135 v8_135).bind fun x139 =>
    ya_j1 (fun (t0_155 : Int32) =>
      if x139 ≤ 0 then
        some (t0_155, d_135)
      else
      (ya_dv t0_155 x139).bind fun x166 =>
      some (x166, d_135)) fun k155 =>
    if v3 = 0 then
      k155 v7_135
    else
    k155 v8_135) fun k135 =>
  if x84 = 0 then
    k135 0 1 d
  else
  (f_X11_thisYear d).bind fun d91 =>
  (ya_rI d91 43 100 x45).bind fun x99 =>
  (f_X11_ordersWithAll v1 v2 x62 x99 d91).bind fun x109 =>
  (f_X1_countComing 35 x39 v2 x62 d91).bind fun x129 =>
  (ya_fr x129).bind fun x132 =>
  k135 x109 x132 d91
def f_X11_costsSomeDay_L2 (v1 : Int32) (v2 : Int32) (d : ya_D) : Nat → Int32 → Option Int32
  | 0, _ => none
  | n + 1, v3 =>
    if (d.1 24 1) ≤ v3 then
      some 0
    else
    (f_X11_cell v1 v3).bind fun x25 =>
    (ya_rI d 27 100 x25).bind fun x28 =>
    if x28 = v2 then
      some 1
    else
    f_X11_costsSomeDay_L2 v1 v2 d n (v3 + 1)
def f_X11_costsSomeDay (v1 : Int32) (v2 : Int32) (d : ya_D) : Option Int32 :=
  f_X11_costsSomeDay_L2 v1 v2 d ya_F 0
def f_X11_asks_L46 (v1 : Int32) (v2 : Int32) (v3 : Int32) (e131 : Int32 → ya_D → Option (Int32 × ya_D)) : Nat → Int32 → Int32 → Int32 → ya_D → Option (Int32 × ya_D)
  | 0, _, _, _, _ => none
  | n + 1, v4, v5, v6, d =>
    if 99 < v6 then
      e131 v5 d
    else
    ya_j3 (fun (v4_125 : Int32) (v5_125 : Int32) (d_125 : ya_D) =>
      f_X11_asks_L46 v1 v2 v3 e131 n v4_125 v5_125 (v6 + 1) d_125) fun k125 =>
    ya_j0 (
      (ya_wI d 33 5 v1 v6).bind fun d83 =>
      (f_X10_run 57 24 1 d83).bind fun d93 =>
      (ya_rI d93 66 5 v1).bind fun x104 =>
      if x104 ≤ v4 then
        k125 v4 v5 d93
      else
      (ya_rI d93 66 5 v1).bind fun x118 =>
      k125 x118 v6 d93) fun k70 =>
    if v6 = 0 then
      k70
    else
    (f_X11_costsSomeDay v3 (v6 - 1) d).bind fun x64 =>
    if x64 = 0 then
      k125 v4 v5 d
    else
    k70
def f_X11_asks (v1 : Int32) (d : ya_D) : Option (Int32 × ya_D) :=
  (f_X11_isSeller v1 d).bind fun x2 =>
  if x2 = 0 then
    some ((-2), d)
  else
  (ya_rI d 33 5 v1).bind fun x22 =>
  (ya_rI d 31 5 v1).bind fun x35 =>
  f_X11_asks_L46 v1 x22 x35 (fun (v5_131 : Int32) (d_131 : ya_D) =>
    (ya_wI d_131 33 5 v1 x22).bind fun d143 =>
    some (v5_131, d143)) ya_F (-1) 0 0 d
def f_X11_hold (v1 : Int32) (v2 : Int32) (d : ya_D) : Option (Int32 × ya_D) :=
  (f_X11_isSeller v1 d).bind fun x2 =>
  ya_j0 (
    some ((-2), d)) fun k18 =>
  if x2 = 0 then
    k18
  else
  (f_X11_within v2 0 99).bind fun x12 =>
  if x12 = 0 then
    k18
  else
  (ya_rI d 33 5 v1).bind fun x32 =>
  (ya_wI d 33 5 v1 v2).bind fun d46 =>
  (ya_pI d46 0 9 0).bind fun d49 =>
  some (x32, d49)
def f_X11_dearestOf_L29 (v1 : Int32) (v2 : Int32) (d : ya_D) : Nat → Int32 → Int32 → Option Int32
  | 0, _, _ => none
  | n + 1, v3, v4 =>
    (ya_rI d 40 7 v1).bind fun x42 =>
    if x42 < v4 then
      some v3
    else
    (f_X11_cell v2 v4).bind fun x60 =>
    (ya_rI d 27 100 x60).bind fun x63 =>
    f_X11_dearestOf_L29 v1 v2 d n (ya_max v3 x63) (v4 + 1)
def f_X11_dearestOf (v1 : Int32) (d : ya_D) : Option Int32 :=
  (ya_rI d 36 7 v1).bind fun x11 =>
  (ya_rI d 39 7 v1).bind fun x26 =>
  f_X11_dearestOf_L29 v1 x11 d ya_F 0 x26
def f_X11_poor (v1 : Int32) (d : ya_D) : Option (Int32 × ya_D) :=
  (f_X11_isBuyer v1 d).bind fun x2 =>
  if x2 = 0 then
    some ((-2), d)
  else
  (f_X11_dearestOf v1 d).bind fun x13 =>
  (ya_rI d 38 7 v1).bind fun x28 =>
  (ya_wI d 38 7 v1 x13).bind fun d42 =>
  (f_X10_run 57 24 1 d42).bind fun d52 =>
  (ya_wI d52 38 7 v1 x28).bind fun d67 =>
  (ya_rI d67 70 7 v1).bind fun x76 =>
  (f_X1_wantsInAll 35 v1 d67).bind fun x85 =>
  if x76 = x85 then
    some (x13, d67)
  else
  some ((-1), d67)
def f_X11_years_L38 (v1 : Int32) (v2 : Int32) (v3 : Int32) : Nat → Int32 → Int32 → ya_D → Option (Int32 × ya_D)
  | 0, _, _, _ => none
  | n + 1, v4, v5, d =>
    if v2 ≤ v5 then
      some (v4, d)
    else
    (f_X10_run 57 24 (v1 + v5) d).bind fun d56 =>
    (ya_rI d56 70 7 v3).bind fun x69 =>
    f_X11_years_L38 v1 v2 v3 n (v4 + x69) (v5 + 1) d56
def f_X11_years (v1 : Int32) (v2 : Int32) (v3 : Int32) (d : ya_D) : Option (Int32 × ya_D) :=
  (f_X11_isBuyer v3 d).bind fun x2 =>
  ya_j0 (
    some ((-2), d)) fun k29 =>
  if x2 = 0 then
    k29
  else
  (f_X11_within v1 0 2000000000).bind fun x13 =>
  if x13 = 0 then
    k29
  else
  (f_X11_within v2 1 20).bind fun x23 =>
  if x23 = 0 then
    k29
  else
  f_X11_years_L38 v1 v2 v3 ya_F 0 0 d
def f_X11_lots (v1 : Int32) (v2 : Int32) (d : ya_D) : Option (Int32 × ya_D) :=
  ya_b2 (f_X11_years v1 1 v2 d) fun x4 d4 =>
  some (x4, d4)
def f_X11_best (v1 : Int32) (d : ya_D) : Option (Int32 × ya_D) :=
  (f_X11_isSeller v1 d).bind fun x2 =>
  if x2 = 0 then
    some ((-2), d)
  else
  (f_X5_load 24 v1 d).bind fun d20 =>
  ya_b2 (f_X5_bring d20) fun x27 d27 =>
  some (x27, d27)
def f_X11_worth (v1 : Int32) (v2 : Int32) (d : ya_D) : Option (Int32 × ya_D) :=
  (f_X11_isSeller v1 d).bind fun x2 =>
  ya_j0 (
    some ((-2), d)) fun k16 =>
  if x2 = 0 then
    k16
  else
  (f_X11_isDay v2 d).bind fun x10 =>
  if x10 = 0 then
    k16
  else
  (f_X5_load 24 v1 d).bind fun d28 =>
  ya_b2 (f_X5_bring d28) fun x35 d35 =>
  ya_b2 (f_X5_bringWithout v2 d35) fun x43 d43 =>
  some (x35 - x43, d43)
def f_X11_thursday_L49  : Nat → Int32 → Int32 → Int32 → ya_D → Option (Int32 × ya_D)
  | 0, _, _, _, _ => none
  | n + 1, v2, v3, v4, d =>
    if (d.1 24 1) ≤ v4 then
      some (v2, d)
    else
    ya_b2 (f_X5_bringWithout v4 d) fun x67 d67 =>
    ya_j2 (fun (v2_84 : Int32) (v3_84 : Int32) =>
      f_X11_thursday_L49  n v2_84 v3_84 (v4 + 1) d67) fun k84 =>
    if v3 ≤ x67 then
      k84 v2 v3
    else
    k84 v4 x67
def f_X11_thursday (v1 : Int32) (d : ya_D) : Option (Int32 × ya_D) :=
  (f_X11_isSeller v1 d).bind fun x2 =>
  if x2 = 0 then
    some ((-2), d)
  else
  (f_X5_load 24 v1 d).bind fun d20 =>
  ya_b2 (f_X5_bring d20) fun x27 d27 =>
  if x27 = 0 then
    some ((-1), d27)
  else
  ya_b2 (f_X5_bringWithout 0 d27) fun x42 d42 =>
  f_X11_thursday_L49  ya_F 0 x42 1 d42
def f_X11_keeping (v1 : Int32) (v2 : Int32) (d : ya_D) : Option (Int32 × ya_D) :=
  (f_X11_isSeller v1 d).bind fun x2 =>
  ya_j0 (
    some ((-2), d)) fun k18 =>
  if x2 = 0 then
    k18
  else
  (f_X11_within v2 0 30).bind fun x12 =>
  if x12 = 0 then
    k18
  else
  (f_X5_load 24 v1 d).bind fun d30 =>
  (ya_pI d30 72 7 v2).bind fun d38 =>
  ya_b2 (f_X5_bring d38) fun x45 d45 =>
  some (x45, d45)
def f_X11_enough_L21 (v1 : Int32) (v2 : Int32) : Nat → Int32 → ya_D → Option (Int32 × ya_D)
  | 0, _, _ => none
  | n + 1, v3, d =>
    if 30 ≤ v3 then
      some (30, d)
    else
    ya_b2 (f_X11_keeping v1 v3 d) fun x30 d30 =>
    if x30 = v2 then
      some (v3, d30)
    else
    f_X11_enough_L21 v1 v2 n (v3 + 1) d30
def f_X11_enough (v1 : Int32) (d : ya_D) : Option (Int32 × ya_D) :=
  (f_X11_isSeller v1 d).bind fun x2 =>
  if x2 = 0 then
    some ((-2), d)
  else
  ya_b2 (f_X11_keeping v1 30 d) fun x15 d15 =>
  f_X11_enough_L21 v1 x15 ya_F 0 d15
def f_X11_cheapest (v1 : Int32) (d : ya_D) : Option (Int32 × ya_D) :=
  (f_X11_isBuyer v1 d).bind fun x2 =>
  if x2 = 0 then
    some ((-2), d)
  else
  ya_b2 (f_X0_plan 24 v1 d) fun x17 d17 =>
  some (x17, d17)
def f_X11_buys (v1 : Int32) (v2 : Int32) (d : ya_D) : Option (Int32 × ya_D) :=
  (f_X11_isBuyer v1 d).bind fun x2 =>
  ya_j0 (
    some ((-2), d)) fun k16 =>
  if x2 = 0 then
    k16
  else
  (f_X11_isDay v2 d).bind fun x10 =>
  if x10 = 0 then
    k16
  else
  ya_b2 (f_X0_plan 24 v1 d) fun x28 d28 =>
  (ya_rI d28 80 20 v2).bind fun x40 =>
  some (x40, d28)
def f_X11_crowd_L28 (d : ya_D) : Nat → Int32 → Int32 → Option (Int32 × ya_D)
  | 0, _, _ => none
  | n + 1, v2, v3 =>
    if (d.1 24 1) ≤ v3 then
      some (v2, d)
    else
    (ya_rI d 80 20 v3).bind fun x47 =>
    (ya_rI d 80 20 v2).bind fun x56 =>
    ya_j1 (fun (v2_62 : Int32) =>
      f_X11_crowd_L28 d n v2_62 (v3 + 1)) fun k62 =>
    if x47 ≤ x56 then
      k62 v2
    else
    k62 v3
def f_X11_crowd (v1 : Int32) (d : ya_D) : Option (Int32 × ya_D) :=
  (f_X11_isBuyer v1 d).bind fun x2 =>
  if x2 = 0 then
    some ((-2), d)
  else
  ya_b2 (f_X0_plan 24 v1 d) fun x20 d20 =>
  f_X11_crowd_L28 d20 ya_F 0 1
def f_X11_mark (v1 : Int32) (v2 : Int32) (v3 : Int32) (d : ya_D) : Option (Int32 × ya_D) :=
  (f_X11_isThingDay v1 v2 d).bind fun x3 =>
  ya_j0 (
    some ((-2), d)) fun k19 =>
  if x3 = 0 then
    k19
  else
  (f_X11_within v3 0 99).bind fun x13 =>
  if x13 = 0 then
    k19
  else
  (f_X11_cell v1 v2).bind fun x24 =>
  (ya_rI d 27 100 x24).bind fun x54 =>
  (ya_wI d 29 100 x24 (ya_min v3 (x54 + (d.1 24 2)))).bind fun d66 =>
  (ya_rI d66 29 100 x24).bind fun x79 =>
  some (x79, d66)
def f_X11_markedOtherwise_L20 (v2 : Int32) (d : ya_D) (e85 : Int32 → Option Int32) : Nat → Int32 → Int32 → Option Int32
  | 0, _, _ => none
  | n + 1, v1, v3 =>
    if (d.1 24 1) ≤ v3 then
      e85 v1
    else
    (f_X11_cell v2 v3).bind fun x43 =>
    (ya_rI d 29 100 x43).bind fun x46 =>
    ya_j1 (fun (v1_79 : Int32) =>
      f_X11_markedOtherwise_L20 v2 d e85 n v1_79 (v3 + 1)) fun k79 =>
    if x46 = (-1) then
      k79 v1
    else
    (f_X11_cell v2 v3).bind fun x69 =>
    (ya_rI d 27 100 x69).bind fun x72 =>
    if x46 = x72 then
      k79 v1
    else
    k79 (v1 + 1)
def f_X11_markedOtherwise_L4 (d : ya_D) : Nat → Int32 → Int32 → Option Int32
  | 0, _, _ => none
  | n + 1, v1, v2 =>
    if (d.1 25 0) ≤ v2 then
      some v1
    else
    f_X11_markedOtherwise_L20 v2 d (fun (v1_85 : Int32) =>
      f_X11_markedOtherwise_L4 d n v1_85 (v2 + 1)) ya_F v1 0
def f_X11_markedOtherwise (d : ya_D) : Option Int32 :=
  f_X11_markedOtherwise_L4 d ya_F 0 0
def f_X11_turn (d : ya_D) : Option (Int32 × ya_D) :=
  (f_X11_isMarket d).bind fun x1 =>
  if x1 = 0 then
    some ((-2), d)
  else
  (f_X11_markedOtherwise d).bind fun x11 =>
  (f_X8_turnYear 25 d).bind fun d22 =>
  (ya_pI d22 0 9 0).bind fun d27 =>
  some (x11, d27)
def f_X11_wantedFor (v1 : Int32) (v2 : Int32) (v3 : Int32) (d : ya_D) : Option Int32 :=
  (ya_rI d 31 5 v1).bind fun x18 =>
  (f_X1_wanted 35 x18 v2 v3 d).bind fun x21 =>
  some x21
def f_X11_bringAt (v1 : Int32) (v2 : Int32) (v3 : Int32) (d : ya_D) : Option (Int32 × ya_D) :=
  (f_X11_wantedFor v1 v2 v3 d).bind fun x10 =>
  ya_b2 (f_X5_bringAt v2 v3 x10 d) fun x13 d13 =>
  some (x13, d13)
def f_X11_made (v1 : Int32) (v2 : Int32) (v3 : Int32) (d : ya_D) : Option (Int32 × ya_D) :=
  (f_X11_isSeller v1 d).bind fun x2 =>
  ya_j0 (
    some ((-1000000), d)) fun k26 =>
  if x2 = 0 then
    k26
  else
  (f_X11_isDay v2 d).bind fun x10 =>
  if x10 = 0 then
    k26
  else
  (f_X11_within v3 0 99).bind fun x20 =>
  if x20 = 0 then
    k26
  else
  (f_X5_load 24 v1 d).bind fun d39 =>
  ya_b2 (f_X11_bringAt v1 v2 v3 d39) fun x46 d46 =>
  ya_b2 (f_X5_bring d46) fun x53 d53 =>
  some (x46 - x53, d53)
def f_X11_least_L56 (v1 : Int32) (v2 : Int32) (v4 : Int32) : Nat → Int32 → ya_D → Option (Int32 × ya_D)
  | 0, _, _ => none
  | n + 1, v5, d =>
    if 99 < v5 then
      some ((-1), d)
    else
    ya_b2 (f_X11_bringAt v1 v2 v5 d) fun x68 d68 =>
    if x68 < v4 then
      f_X11_least_L56 v1 v2 v4 n (v5 + 1) d68
    else
    some (v5, d68)
def f_X11_least (v1 : Int32) (v2 : Int32) (v3 : Int32) (d : ya_D) : Option (Int32 × ya_D) :=
  (f_X11_isSeller v1 d).bind fun x2 =>
  ya_j0 (
    some ((-2), d)) fun k27 =>
  if x2 = 0 then
    k27
  else
  (f_X11_isDay v2 d).bind fun x10 =>
  if x10 = 0 then
    k27
  else
  (f_X11_within v3 1 9999).bind fun x21 =>
  if x21 = 0 then
    k27
  else
  (f_X5_load 24 v1 d).bind fun d39 =>
  ya_b2 (f_X5_bring d39) fun x46 d46 =>
  f_X11_least_L56 v1 v2 (x46 + v3) ya_F 0 d46
def f_X11_most_L97 (v1 : Int32) (v2 : Int32) (v5 : Int32) (v6 : Int32) (e170 : Int32 → Int32 → ya_D → Option (Int32 × ya_D)) : Nat → Int32 → Int32 → Int32 → ya_D → Option (Int32 × ya_D)
  | 0, _, _, _, _ => none
  | n + 1, v3, v4, v7, d =>
    if v6 < v7 then
      e170 v3 v4 d
    else
    ya_j3 (fun (v3_164 : Int32) (v4_164 : Int32) (d_164 : ya_D) =>
      f_X11_most_L97 v1 v2 v5 v6 e170 n v3_164 v4_164 (v7 + 1) d_164) fun k164 =>
    ya_j0 (
      ya_b2 (f_X11_bringAt v1 v5 v7 d) fun x140 d140 =>
      if x140 ≤ v3 then
        k164 v3 v4 d140
      else
      k164 x140 (((100 : Int32) * v5) + v7) d140) fun k134 =>
    if v7 = v6 then
      k134
    else
    (f_X11_wantedFor v1 v5 (v7 + 1) d).bind fun x119 =>
    (f_X11_wantedFor v1 v5 v7 d).bind fun x128 =>
    if x128 ≤ x119 then
      k164 v3 v4 d
    else
    k134
def f_X11_most_L50 (v1 : Int32) (v2 : Int32) : Nat → Int32 → Int32 → Int32 → ya_D → Option (Int32 × ya_D)
  | 0, _, _, _, _ => none
  | n + 1, v3, v4, v5, d =>
    if (d.1 24 1) ≤ v5 then
      some (v4, d)
    else
    (f_X11_cell v2 v5).bind fun x77 =>
    (ya_rI d 27 100 x77).bind fun x80 =>
    f_X11_most_L97 v1 v2 v5 (ya_min 99 (x80 + (d.1 24 2))) (fun (v3_170 : Int32) (v4_170 : Int32) (d_170 : ya_D) =>
      f_X11_most_L50 v1 v2 n v3_170 v4_170 (v5 + 1) d_170) ya_F v3 v4 0 d
def f_X11_most (v1 : Int32) (d : ya_D) : Option (Int32 × ya_D) :=
  (f_X11_isSeller v1 d).bind fun x2 =>
  if x2 = 0 then
    some ((-2), d)
  else
  (f_X5_load 24 v1 d).bind fun d20 =>
  (ya_rI d20 31 5 v1).bind fun x34 =>
  ya_b2 (f_X5_bring d20) fun x40 d40 =>
  f_X11_most_L50 v1 x34 ya_F x40 (-1) 0 d40
def f_X11_leap (v1 : Int32) (v2 : Int32) (v3 : Int32) (d : ya_D) : Option Int32 :=
  (f_X11_isThingDay v1 v2 d).bind fun x3 =>
  if x3 = 0 then
    some (-2)
  else
  (f_X11_cell v1 v2).bind fun x24 =>
  (ya_rI d 27 100 x24).bind fun x27 =>
  ya_j1 (fun (t0_61 : Int32) =>
    (f_X11_cell v1 t0_61).bind fun x61 =>
    (ya_rI d 27 100 x61).bind fun x64 =>
    if v3 = 0 then
      some x27
    else
    if v3 = 1 then
      some x64
    else
    if v3 = 2 then
      some ((x27 + x64) / 2)
    else
    some (-2)) fun k61 =>
  if (d.1 24 1) ≤ (v2 + 1) then
    k61 0
  else
  k61 (v2 + 1)
def f_X11_passingGain (v1 : Int32) (v2 : Int32) (v3 : Int32) (v4 : Int32) (d : ya_D) : Option Int32 :=
  if v2 = 0 then
    (f_X11_cell v1 v4).bind fun x33 =>
    (ya_rI d 28 100 x33).bind fun x36 =>
    (f_X11_cell v1 v3).bind fun x41 =>
    (ya_rI d 27 100 x41).bind fun x44 =>
    some (x36 - x44)
  else
  (f_X11_cell v1 v4).bind fun x54 =>
  (ya_rI d 27 100 x54).bind fun x57 =>
  (f_X11_cell v1 v3).bind fun x62 =>
  (ya_rI d 28 100 x62).bind fun x65 =>
  some (x57 - x65)
def f_X11_passingPart (v0 : Int32) (v1 : Int32) : Option Int32 :=
  if v1 = 1 then
    some ((v0 / 20) - (v0 / 20) / 20 * 20)
  else
  if v1 = 2 then
    some (v0 - v0 / 20 * 20)
  else
  some (v0 / 400)
def f_X11_passing_L82 (v1 : Int32) (v2 : Int32) (v5 : Int32) (v6 : Int32) (v7 : Int32) (d : ya_D) (e133 : Int32 → Int32 → Option Int32) : Nat → Int32 → Int32 → Int32 → Option Int32
  | 0, _, _, _ => none
  | n + 1, v3, v4, v8 =>
    if v7 < v8 then
      e133 v3 v4
    else
    (f_X11_passingGain v1 v5 v6 v8 d).bind fun x97 =>
    ya_j2 (fun (v3_127 : Int32) (v4_127 : Int32) =>
      f_X11_passing_L82 v1 v2 v5 v6 v7 d e133 n v3_127 v4_127 (v8 + 1)) fun k127 =>
    if x97 ≤ v3 then
      k127 v3 v4
    else
    k127 x97 ((((v5 * 20) + v6) * 20) + v8)
def f_X11_passing_L37 (v1 : Int32) (v2 : Int32) (v5 : Int32) (d : ya_D) (e139 : Int32 → Int32 → Option Int32) : Nat → Int32 → Int32 → Int32 → Option Int32
  | 0, _, _, _ => none
  | n + 1, v3, v4, v6 =>
    if (d.1 24 1) ≤ v6 then
      e139 v3 v4
    else
    (ya_rI d 26 5 v1).bind fun x71 =>
    f_X11_passing_L82 v1 v2 v5 v6 (ya_min ((d.1 24 1) - 1) (v6 + x71)) d (fun (v3_133 : Int32) (v4_133 : Int32) =>
      f_X11_passing_L37 v1 v2 v5 d e139 n v3_133 v4_133 (v6 + 1)) ya_F v3 v4 v6
def f_X11_passing_L28 (v1 : Int32) (v2 : Int32) (d : ya_D) (e145 : Int32 → Int32 → Option Int32) : Nat → Int32 → Int32 → Int32 → Option Int32
  | 0, _, _, _ => none
  | n + 1, v3, v4, v5 =>
    if 1 < v5 then
      e145 v3 v4
    else
    f_X11_passing_L37 v1 v2 v5 d (fun (v3_139 : Int32) (v4_139 : Int32) =>
      f_X11_passing_L28 v1 v2 d e145 n v3_139 v4_139 (v5 + 1)) ya_F v3 v4 0
def f_X11_passing (v1 : Int32) (v2 : Int32) (d : ya_D) : Option Int32 :=
  (f_X11_isThing v1 d).bind fun x2 =>
  ya_j0 (
    some (-2)) fun k17 =>
  if x2 = 0 then
    k17
  else
  (f_X11_within v2 0 3).bind fun x11 =>
  if x11 = 0 then
    k17
  else
  f_X11_passing_L28 v1 v2 d (fun (v3_145 : Int32) (v4_145 : Int32) =>
    ya_j0 (
      if v2 = 0 then
        some v3_145
      else
      some (-1)) fun k155 =>
    if v2 = 0 then
      k155
    else
    if v4_145 = (-1) then
      k155
    else
    (f_X11_passingPart v4_145 v2).bind fun x168 =>
    some x168) ya_F 0 (-1) 0
def f_X11_like_L86 (v1 : Int32) (v2 : Int32) (v3 : Int32) (v4 : Int32) (v5 : Int32) : Nat → Int32 → Int32 → ya_D → Option (Int32 × ya_D)
  | 0, _, _, _ => none
  | n + 1, v7, v9, d =>
    if (d.1 24 1) ≤ v9 then
      (ya_pI d 0 9 0).bind fun d163 =>
      some (v7, d163)
    else
    (f_X11_cell v2 v9).bind fun x104 =>
    (ya_rI d 27 100 x104).bind fun x107 =>
    (f_X11_cell v4 v9).bind fun x117 =>
    (ya_rI d 27 100 x117).bind fun x120 =>
    (f_X11_cell v1 v9).bind fun x130 =>
    (ya_dv ((v3 * x107) + (v5 * x120)) (v3 + v5)).bind fun x139 =>
    (ya_wI d 27 100 x130 x139).bind fun d140 =>
    (f_X11_cell v1 v9).bind fun x148 =>
    (ya_rI d140 27 100 x148).bind fun x151 =>
    f_X11_like_L86 v1 v2 v3 v4 v5 n (v7 + x151) (v9 + 1) d140
def f_X11_like (v1 : Int32) (v2 : Int32) (v3 : Int32) (v4 : Int32) (v5 : Int32) (d : ya_D) : Option (Int32 × ya_D) :=
  (f_X11_isThing v1 d).bind fun x2 =>
  ya_j1 (fun (t0_30 : Int32) =>
    ya_j0 (
      some ((-2), d)) fun k65 =>
    if t0_30 = 0 then
      k65
    else
    (f_X11_within v3 0 9).bind fun x41 =>
    if x41 = 0 then
      k65
    else
    (f_X11_within v5 0 9).bind fun x52 =>
    if x52 = 0 then
      k65
    else
    if (v3 + v5) = 0 then
      k65
    else
    f_X11_like_L86 v1 v2 v3 v4 v5 ya_F 0 0 d) fun k30 =>
  ya_j0 (
    k30 0) fun k29 =>
  if x2 = 0 then
    k29
  else
  (f_X11_isThing v2 d).bind fun x10 =>
  if x10 = 0 then
    k29
  else
  (f_X11_isThing v4 d).bind fun x19 =>
  if x19 = 0 then
    k29
  else
  k30 1
def f_X11_dearestDay_L4 (v1 : Int32) (d : ya_D) : Nat → Int32 → Int32 → Option Int32
  | 0, _, _ => none
  | n + 1, v2, v3 =>
    if (d.1 24 1) ≤ v3 then
      some v2
    else
    (f_X11_cell v1 v3).bind fun x27 =>
    (ya_rI d 27 100 x27).bind fun x30 =>
    (f_X11_cell v1 v2).bind fun x43 =>
    (ya_rI d 27 100 x43).bind fun x46 =>
    ya_j1 (fun (v2_52 : Int32) =>
      f_X11_dearestDay_L4 v1 d n v2_52 (v3 + 1)) fun k52 =>
    if x30 ≤ x46 then
      k52 v2
    else
    k52 v3
def f_X11_dearestDay (v1 : Int32) (d : ya_D) : Option Int32 :=
  f_X11_dearestDay_L4 v1 d ya_F 0 1
def f_X11_cheapestDay_L4 (v1 : Int32) (d : ya_D) : Nat → Int32 → Int32 → Option Int32
  | 0, _, _ => none
  | n + 1, v2, v3 =>
    if (d.1 24 1) ≤ v3 then
      some v2
    else
    (f_X11_cell v1 v3).bind fun x27 =>
    (ya_rI d 27 100 x27).bind fun x30 =>
    (f_X11_cell v1 v2).bind fun x43 =>
    (ya_rI d 27 100 x43).bind fun x46 =>
    ya_j1 (fun (v2_52 : Int32) =>
      f_X11_cheapestDay_L4 v1 d n v2_52 (v3 + 1)) fun k52 =>
    if x46 ≤ x30 then
      k52 v2
    else
    k52 v3
def f_X11_cheapestDay (v1 : Int32) (d : ya_D) : Option Int32 :=
  f_X11_cheapestDay_L4 v1 d ya_F 0 1
def f_X11_sameAsAhead (v1 : Int32) (v2 : Int32) (d : ya_D) : Option Int32 :=
  ya_j0 (
    some 0) fun k38 =>
  if v2 ≤ 0 then
    k38
  else
  (f_X11_cell v1 v2).bind fun x18 =>
  (ya_rI d 27 100 x18).bind fun x21 =>
  (f_X11_cell v1 (v2 - 1)).bind fun x27 =>
  (ya_rI d 27 100 x27).bind fun x30 =>
  if x21 = x30 then
    some 1
  else
  k38
def f_X11_priceChanges_L4 (v1 : Int32) (d : ya_D) : Nat → Int32 → Int32 → Option Int32
  | 0, _, _ => none
  | n + 1, v2, v3 =>
    if (d.1 24 1) ≤ v3 then
      some v2
    else
    (f_X11_sameAsAhead v1 v3 d).bind fun x18 =>
    ya_j1 (fun (v2_27 : Int32) =>
      f_X11_priceChanges_L4 v1 d n v2_27 (v3 + 1)) fun k27 =>
    if x18 = 0 then
      k27 (v2 + 1)
    else
    k27 v2
def f_X11_priceChanges (v1 : Int32) (d : ya_D) : Option Int32 :=
  f_X11_priceChanges_L4 v1 d ya_F 0 1
def f_X11_longestAtOnePrice_L7 (v1 : Int32) (d : ya_D) : Nat → Int32 → Int32 → Int32 → Option Int32
  | 0, _, _, _ => none
  | n + 1, v2, v3, v4 =>
    if (d.1 24 1) ≤ v4 then
      some v2
    else
    (f_X11_sameAsAhead v1 v4 d).bind fun x23 =>
    ya_j1 (fun (t0_36 : Int32) =>
      f_X11_longestAtOnePrice_L7 v1 d n (ya_max v2 t0_36) t0_36 (v4 + 1)) fun k36 =>
    if x23 = 0 then
      k36 1
    else
    k36 (v3 + 1)
def f_X11_longestAtOnePrice (v1 : Int32) (d : ya_D) : Option Int32 :=
  f_X11_longestAtOnePrice_L7 v1 d ya_F 0 0 0
def f_X11_shape (v1 : Int32) (v2 : Int32) (d : ya_D) : Option Int32 :=
  (f_X11_isThing v1 d).bind fun x2 =>
  if x2 = 0 then
    some (-2)
  else
  if v2 = 0 then
    (f_X11_dearestDay v1 d).bind fun x46 =>
    some x46
  else
  if v2 = 1 then
    (f_X11_cheapestDay v1 d).bind fun x52 =>
    some x52
  else
  if v2 = 2 then
    (f_X11_priceChanges v1 d).bind fun x58 =>
    some x58
  else
  if v2 = 3 then
    (f_X11_longestAtOnePrice v1 d).bind fun x64 =>
    some x64
  else
  some (-2)
def f_X11_dearer_L29 (v1 : Int32) (v2 : Int32) (d : ya_D) : Nat → Int32 → Int32 → Option Int32
  | 0, _, _ => none
  | n + 1, v3, v4 =>
    if (d.1 24 1) ≤ v4 then
      some v3
    else
    (f_X11_cell v1 v4).bind fun x54 =>
    (ya_rI d 27 100 x54).bind fun x57 =>
    (f_X11_cell v2 v4).bind fun x71 =>
    (ya_rI d 27 100 x71).bind fun x74 =>
    ya_j1 (fun (v3_81 : Int32) =>
      f_X11_dearer_L29 v1 v2 d n v3_81 (v4 + 1)) fun k81 =>
    if x57 ≤ x74 then
      k81 v3
    else
    k81 (v3 + 1)
def f_X11_dearer (v1 : Int32) (v2 : Int32) (d : ya_D) : Option Int32 :=
  (f_X11_isThing v1 d).bind fun x2 =>
  ya_j0 (
    some (-2)) fun k21 =>
  if x2 = 0 then
    k21
  else
  (f_X11_isThing v2 d).bind fun x10 =>
  if x10 = 0 then
    k21
  else
  if v1 = v2 then
    k21
  else
  f_X11_dearer_L29 v1 v2 d ya_F 0 0
def f_X11_come (v1 : Int32) (v2 : Int32) (v3 : Int32) (d : ya_D) : Option Int32 :=
  (f_X11_isThingDay v1 v2 d).bind fun x3 =>
  ya_j0 (
    some (-2)) fun k19 =>
  if x3 = 0 then
    k19
  else
  (f_X11_within v3 0 99).bind fun x13 =>
  if x13 = 0 then
    k19
  else
  (f_X1_countComing 35 v1 v2 v3 d).bind fun x32 =>
  some x32
def f_X11_isSlot (v0 : Int32) : Option Int32 :=
  ya_j0 (
    some 0) fun k13 =>
  if v0 < 0 then
    k13
  else
  if 4 ≤ v0 then
    k13
  else
  some 1
def f_X11_refuseCrowds_L38 (G : ya_G) (q15 : Nat) (d : ya_D) (e111 : Option Int32) : Nat → Int32 → Option Int32
  | 0, _ => none
  | n + 1, v3 =>
    if (d.1 q15 2) ≤ (v3 + 1) then
      some 0
    else
    (ya_rL d (q15 + 1) 60 v3).bind fun x53 =>
    (ya_rL d (q15 + 1) 60 (v3 + 1)).bind fun x63 =>
    if x53 < 0 then
      e111
    else
    if ((d.1 25 0).toInt64) ≤ x53 then
      e111
    else
    if x63 < 0 then
      e111
    else
    if x63 < ((d.1 24 1).toInt64) then
      f_X11_refuseCrowds_L38 G q15 d e111 n (v3 + 3)
    else
    e111
def f_X11_refuseCrowds (G : ya_G) (v1 : Int32) (d : ya_D) : Option Int32 :=
  (f_X11_isSlot v1).bind fun x1 =>
  if x1 = 0 then
    some (-2)
  else
  ya_lk G 82 4 v1 (
    some (-6)) fun q15 =>
  if ((d.1 q15 2) - (d.1 q15 2) / 3 * 3) = 0 then
    f_X11_refuseCrowds_L38 G q15 d (
      some (-2)) ya_F 0
  else
  some (-2)
def f_X11_crowdsAgree_L34 (G : ya_G) (q5 : Nat) (v2 : Int32) (v3 : Int32) (v6 : Int32) (d : ya_D) : Nat → Int32 → Option Int32
  | 0, _ => none
  | n + 1, v7 =>
    if (d.1 q5 2) ≤ (v7 + 2) then
      some 1
    else
    (ya_rL d (q5 + 1) 60 v7).bind fun x53 =>
    ya_j1 (fun (t0_81 : Int32) =>
      ya_j0 (
        f_X11_crowdsAgree_L34 G q5 v2 v3 v6 d n (v7 + 3)) fun k107 =>
      if t0_81 = 0 then
        k107
      else
      (ya_rL d (q5 + 1) 60 (v7 + 2)).bind fun x97 =>
      if x97 = ((v6).toInt64) then
        k107
      else
      some 0) fun k81 =>
    ya_j0 (
      k81 0) fun k80 =>
    if x53 = ((v2).toInt64) then
      (ya_rL d (q5 + 1) 60 (v7 + 1)).bind fun x69 =>
      if x69 = ((v3).toInt64) then
        k81 1
      else
      k80
    else
    k80
def f_X11_crowdsAgree (G : ya_G) (v1 : Int32) (v2 : Int32) (v3 : Int32) (v4 : Int32) (d : ya_D) : Option Int32 :=
  ya_lk G 82 4 v1 (
    some 0) fun q5 =>
  (f_X1_countComing 35 v2 v3 v4 d).bind fun x26 =>
  f_X11_crowdsAgree_L34 G q5 v2 v3 x26 d ya_F 0
def f_X11_agree_L33 (G : ya_G) (v1 : Int32) (v2 : Int32) (v3 : Int32) (d : ya_D) : Nat → Int32 → Int32 → Option Int32
  | 0, _, _ => none
  | n + 1, v5, v6 =>
    if 99 < v6 then
      some v5
    else
    (f_X11_crowdsAgree G v1 v2 v3 v6 d).bind fun x46 =>
    ya_j1 (fun (v5_55 : Int32) =>
      f_X11_agree_L33 G v1 v2 v3 d n v5_55 (v6 + 1)) fun k55 =>
    if x46 = 0 then
      k55 v5
    else
    k55 (v5 + 1)
def f_X11_agree (G : ya_G) (v1 : Int32) (v2 : Int32) (v3 : Int32) (d : ya_D) : Option Int32 :=
  (f_X11_isThingDay v2 v3 d).bind fun x3 =>
  if x3 = 0 then
    some (-2)
  else
  (f_X11_refuseCrowds G v1 d).bind fun x14 =>
  if x14 = 0 then
    f_X11_agree_L33 G v1 v2 v3 d ya_F 0 0
  else
  some x14
def f_X11_told_L40 (G : ya_G) (v1 : Int32) (v2 : Int32) (v3 : Int32) (v4 : Int32) (d : ya_D) : Nat → Int32 → Option Int32
  | 0, _ => none
  | n + 1, v6 =>
    if 99 < v6 then
      some (-1)
    else
    ya_j1 (fun (t0_62 : Int32) =>
      (f_X11_crowdsAgree G v1 v2 v3 t0_62 d).bind fun x70 =>
      if x70 = 0 then
        f_X11_told_L40 G v1 v2 v3 v4 d n (v6 + 1)
      else
      some t0_62) fun k62 =>
    if v4 = 0 then
      k62 v6
    else
    k62 ((99 : Int32) - v6)
def f_X11_told (G : ya_G) (v1 : Int32) (v2 : Int32) (v3 : Int32) (v4 : Int32) (d : ya_D) : Option Int32 :=
  (f_X11_isThingDay v2 v3 d).bind fun x3 =>
  ya_j0 (
    some (-2)) fun k19 =>
  if x3 = 0 then
    k19
  else
  (f_X11_within v4 0 1).bind fun x13 =>
  if x13 = 0 then
    k19
  else
  (f_X11_refuseCrowds G v1 d).bind fun x24 =>
  if x24 = 0 then
    f_X11_told_L40 G v1 v2 v3 v4 d ya_F 0
  else
  some x24
def f_X11_odd_L41 (G : ya_G) (q29 : Nat) (d : ya_D) : Nat → Int32 → Option Int32
  | 0, _ => none
  | n + 1, v4 =>
    if (d.1 q29 2) ≤ (v4 + 2) then
      some (-1)
    else
    (ya_rL d (q29 + 1) 60 v4).bind fun x58 =>
    (ya_rL d (q29 + 1) 60 (v4 + 1)).bind fun x70 =>
    (f_X11_price ((x58).toInt32) ((x70).toInt32) d).bind fun x79 =>
    (f_X11_come ((x58).toInt32) ((x70).toInt32) x79 d).bind fun x91 =>
    (ya_rL d (q29 + 1) 60 (v4 + 2)).bind fun x103 =>
    if ((x91).toInt64) = x103 then
      f_X11_odd_L41 G q29 d n (v4 + 3)
    else
    some (v4 / 3)
def f_X11_odd (G : ya_G) (v1 : Int32) (d : ya_D) : Option Int32 :=
  (f_X11_isMarket d).bind fun x1 =>
  ya_j1 (fun (t0_17 : Int32) =>
    if t0_17 = 0 then
      ya_lk G 82 4 v1 (
        some (-6)) fun q29 =>
      f_X11_odd_L41 G q29 d ya_F 0
    else
    some t0_17) fun k17 =>
  if x1 = 0 then
    k17 (-2)
  else
  (f_X11_refuseCrowds G v1 d).bind fun x9 =>
  k17 x9
def f_X11_rowsThere_L4 (G : ya_G) : Nat → Int32 → Int32 → Option Int32
  | 0, _, _ => none
  | n + 1, v1, v2 =>
    if 4 ≤ v2 then
      some v1
    else
    ya_lk G 82 4 v2 (
      f_X11_rowsThere_L4 G n v1 (v2 + 1)) fun q14 =>
    f_X11_rowsThere_L4 G n (v1 + 1) (v2 + 1)
def f_X11_rowsThere (G : ya_G) : Option Int32 :=
  f_X11_rowsThere_L4 G ya_F 0 0
def f_X11_count (G : ya_G) (v1 : Int32) (d : ya_D) : Option Int32 :=
  if v1 = 0 then
    some (d.1 24 1)
  else
  if v1 = 1 then
    some (d.1 25 0)
  else
  if v1 = 2 then
    some (d.1 30 0)
  else
  if v1 = 3 then
    some (d.1 35 0)
  else
  if v1 = 4 then
    some (d.1 24 0)
  else
  if v1 = 5 then
    some (d.1 1 1)
  else
  if v1 = 6 then
    some (d.1 24 2)
  else
  if v1 = 7 then
    (f_X11_markedOtherwise d).bind fun x118 =>
    some x118
  else
  if v1 = 8 then
    (f_X11_rowsThere G).bind fun x123 =>
    some x123
  else
  some (-1)
def f_X11_image (G : ya_G) (v1 : Int32) (d : ya_D) : Option (Int32 × ya_D) :=
  (f_X11_within v1 0 2).bind fun x3 =>
  if x3 = 0 then
    some ((-2), d)
  else
  ya_lk G 81 3 v1 (
    none) fun q17 =>
  ya_lk G 81 3 v1 (
    none) fun q39 =>
  (f_X2_take q39 24 d).bind fun d44 =>
  some (0, d44)
def f_X11_restore (G : ya_G) (v1 : Int32) (d : ya_D) : Option (Int32 × ya_D) :=
  (f_X11_within v1 0 2).bind fun x3 =>
  if x3 = 0 then
    some ((-2), d)
  else
  ya_lk G 81 3 v1 (
    some ((-6), d)) fun q17 =>
  ya_lk G 81 3 v1 (
    none) fun q33 =>
  (f_X2_take 24 q33 d).bind fun d34 =>
  (ya_pI d34 0 9 0).bind fun d39 =>
  some (0, d39)
def f_X11_row (G : ya_G) (v1 : Int32) (v2 : Int32) (v3 : Int32) (d : ya_D) : Option (Int32 × ya_D) :=
  (f_X11_isSlot v1).bind fun x1 =>
  ya_j0 (
    some ((-2), d)) fun k22 =>
  if x1 = 0 then
    k22
  else
  (f_X11_within v2 0 3).bind fun x10 =>
  if x10 = 0 then
    k22
  else
  if v3 ≤ 60 then
    if 0 ≤ v3 then
      ya_lk G 82 4 v1 (
        none) fun q37 =>
      ya_lk G 82 4 v1 (
        none) fun q59 =>
      (f_X4_begin q59 v2 v3 d).bind fun d62 =>
      some (0, d62)
    else
    some ((-3), d)
  else
  k22
def f_X11_write (G : ya_G) (v1 : Int32) (v2 : Int32) (v3 : Int64) (d : ya_D) : Option (Int32 × ya_D) :=
  (f_X11_isSlot v1).bind fun x1 =>
  if x1 = 0 then
    some ((-2), d)
  else
  ya_lk G 82 4 v1 (
    some ((-6), d)) fun q15 =>
  ya_j0 (
    some ((-7), d)) fun k39 =>
  if v2 < 0 then
    k39
  else
  if v2 < (d.1 q15 2) then
    (f_X4_put q15 v2 v3 d).bind fun d46 =>
    some (0, d46)
  else
  k39
def f_X11_paste (G : ya_G) (v1 : Int32) (v2 : Int32) (v3 : Int32) (v4 : Int32) (v5 : Int32) (d : ya_D) : Option (Int32 × ya_D) :=
  (f_X11_isSlot v1).bind fun x1 =>
  ya_j0 (
    some ((-2), d)) fun k14 =>
  if x1 = 0 then
    k14
  else
  (f_X11_isSlot v3).bind fun x8 =>
  if x8 = 0 then
    k14
  else
  ya_lk G 82 4 v1 (
    ya_lk G 82 4 v3 (
      some ((-6), d)) fun q30 =>
    some ((-6), d)) fun q22 =>
  ya_lk G 82 4 v3 (
    some ((-6), d)) fun q30 =>
  if (d.1 q22 1) = (d.1 q30 1) then
    (f_X4_reaches q22 v2 v5 d).bind fun x67 =>
    ya_j0 (
      some ((-7), d)) fun k85 =>
    if x67 = 0 then
      k85
    else
    (f_X4_reaches q30 v4 v5 d).bind fun x79 =>
    if x79 = 0 then
      k85
    else
    (ya_kL d (q22 + 1) 60 v2 (q30 + 1) 60 v4 v5).bind fun d103 =>
    some (0, d103)
  else
  some ((-8), d)
def f_X12_in (v0 : Int64) (v2 : Int64) (v4 : Int64) : Option Int32 :=
  ya_j0 (
    some 0) fun k17 =>
  if v0 < v2 then
    k17
  else
  if v4 < v0 then
    k17
  else
  some 1
def f_X12_image_L17 (v1 : Int32) : Nat → Int32 → ya_D → Option (Int32 × ya_D)
  | 0, _, _ => none
  | n + 1, v2, d =>
    if 468 ≤ v2 then
      (ya_wI d 86 3 v1 (vp_nar .boolean 1)).bind fun d54 =>
      some (0, d54)
    else
    (ya_rI d 84 468 v2).bind fun x40 =>
    (ya_wI d 85 1404 (((468 : Int32) * v1) + v2) x40).bind fun d41 =>
    f_X12_image_L17 v1 n (v2 + 1) d41
def f_X12_image (v1 : Int32) (d : ya_D) : Option (Int32 × ya_D) :=
  (f_X12_in ((v1).toInt64) 0 2).bind fun x6 =>
  if x6 = 0 then
    some ((-2), d)
  else
  f_X12_image_L17 v1 ya_F 0 d
def f_X12_restore_L29 (v1 : Int32) : Nat → Int32 → ya_D → Option (Int32 × ya_D)
  | 0, _, _ => none
  | n + 1, v2, d =>
    if 468 ≤ v2 then
      some (0, d)
    else
    (ya_rI d 85 1404 (((468 : Int32) * v1) + v2)).bind fun x52 =>
    (ya_wI d 84 468 v2 x52).bind fun d53 =>
    f_X12_restore_L29 v1 n (v2 + 1) d53
def f_X12_restore (v1 : Int32) (d : ya_D) : Option (Int32 × ya_D) :=
  (f_X12_in ((v1).toInt64) 0 2).bind fun x6 =>
  if x6 = 0 then
    some ((-2), d)
  else
  (ya_rI d 86 3 v1).bind fun x20 =>
  if x20 = 0 then
    some ((-6), d)
  else
  f_X12_restore_L29 v1 ya_F 0 d
def f_X12_isMarket (d : ya_D) : Option Int32 :=
  (ya_rI d 84 468 0).bind fun x5 =>
  if x5 ≤ 0 then
    some 0
  else
  some 1
def f_X12_isThing (v1 : Int64) (d : ya_D) : Option Int32 :=
  (ya_rI d 84 468 1).bind fun x7 =>
  (f_X12_in v1 0 ((x7 - 1).toInt64)).bind fun x11 =>
  (ya_zz x11).bind fun z14 =>
  some z14
def f_X12_isDay (v1 : Int64) (d : ya_D) : Option Int32 :=
  (ya_rI d 84 468 0).bind fun x7 =>
  (f_X12_in v1 0 ((x7 - 1).toInt64)).bind fun x11 =>
  (ya_zz x11).bind fun z14 =>
  some z14
def f_X12_isSeller (v1 : Int32) (d : ya_D) : Option Int32 :=
  (ya_rI d 84 468 2).bind fun x8 =>
  (f_X12_in ((v1).toInt64) 0 ((x8 - 1).toInt64)).bind fun x12 =>
  (ya_zz x12).bind fun z15 =>
  some z15
def f_X12_isBuyer (v1 : Int32) (d : ya_D) : Option Int32 :=
  (ya_rI d 84 468 3).bind fun x8 =>
  (f_X12_in ((v1).toInt64) 0 ((x8 - 1).toInt64)).bind fun x12 =>
  (ya_zz x12).bind fun z15 =>
  some z15
def f_X12_areSo (v1 : Int32) (v2 : Int32) (d : ya_D) : Option Int32 :=
  (f_X12_isThing ((v1).toInt64) d).bind fun x3 =>
  ya_j0 (
    some 0) fun k22 =>
  if x3 = 0 then
    k22
  else
  (f_X12_isDay ((v2).toInt64) d).bind fun x12 =>
  if x12 = 0 then
    k22
  else
  some 1
def f_X12_at (v0 : Int32) (v1 : Int32) : Option Int32 :=
  some (((20 : Int32) * v0) + v1)
def f_X12_priceOf (v1 : Int32) (v2 : Int32) (d : ya_D) : Option Int32 :=
  (f_X12_at v1 v2).bind fun x8 =>
  (ya_rI d 84 468 ((11 : Int32) + x8)).bind fun x12 =>
  some x12
def f_X12_keepsOf (v1 : Int32) (d : ya_D) : Option Int32 :=
  (ya_rI d 84 468 ((6 : Int32) + v1)).bind fun x8 =>
  some x8
def f_X12_seller3 (v1 : Int32) (v2 : Int32) (d : ya_D) : Option Int32 :=
  (ya_rI d 84 468 (((311 : Int32) + ((3 : Int32) * v1)) + v2)).bind fun x13 =>
  some x13
def f_X12_thingOf (v1 : Int32) (d : ya_D) : Option Int32 :=
  (f_X12_seller3 v1 0 d).bind fun x3 =>
  some x3
def f_X12_of (v1 : Int32) (v2 : Int32) (d : ya_D) : Option Int32 :=
  (ya_rI d 84 468 (((426 : Int32) + ((6 : Int32) * v1)) + v2)).bind fun x14 =>
  some x14
def f_X12_feed_L55 (e101 : ya_D → Option (Int32 × ya_D)) : Nat → Int32 → ya_D → Option (Int32 × ya_D)
  | 0, _, _ => none
  | n + 1, v6, d =>
    if 20 ≤ v6 then
      e101 d
    else
    (ya_rI d 88 5 (v6 / 4)).bind fun x81 =>
    (ya_wI d 87 2000 ((d.1 83 5) + v6) (vp_nar .byte ((x81 >>> (((24 : Int32) - ((8 : Int32) * (v6 - v6 / 4 * 4))) &&& 31)).toInt8.toInt32))).bind fun d94 =>
    f_X12_feed_L55 e101 n (v6 + 1) d94
def f_X12_feed (v1 : Int32) (v2 : Int32) (v3 : Int32) (v4 : Int32) (v5 : Int32) (d : ya_D) : Option (Int32 × ya_D) :=
  if ((d.1 83 5) + 20) ≤ 2000 then
    (ya_wI d 88 5 0 v1).bind fun d21 =>
    (ya_wI d21 88 5 1 v2).bind fun d28 =>
    (ya_wI d28 88 5 2 v3).bind fun d35 =>
    (ya_wI d35 88 5 3 v4).bind fun d43 =>
    (ya_wI d43 88 5 4 v5).bind fun d51 =>
    f_X12_feed_L55  (fun (d_101 : ya_D) =>
      (ya_pI d_101 83 5 ((d_101.1 83 5) + 20)).bind fun d109 =>
      some (d109.1 83 5, d109)) ya_F 0 d51
  else
  some ((-1), d)
def f_X12_end (v1 : Int32) (d : ya_D) : Option (Int32 × ya_D) :=
  (f_X12_in ((v1).toInt64) 0 ((d.1 83 5).toInt64)).bind fun x8 =>
  if x8 = 0 then
    some ((-1), d)
  else
  (ya_pI d 83 5 v1).bind fun d18 =>
  some (v1, d18)
def f_X12_see (v1 : Int32) (d : ya_D) : Option Int32 :=
  if (d.1 83 7) ≤ v1 then
    some (-1)
  else
  (ya_rI d 87 2000 v1).bind fun x13 =>
  some (x13 &&& 255)
def f_X12_advance_L0 (e39 : ya_D → Option ya_D) : Nat → ya_D → Option ya_D
  | 0, _ => none
  | n + 1, d =>
    (f_X12_see (d.1 83 8) d).bind fun x5 =>
    ya_j0 (
      (ya_pI d 83 8 ((d.1 83 8) + 1)).bind fun d33 =>
      f_X12_advance_L0 e39 n d33) fun k26 =>
    if x5 = 32 then
      k26
    else
    (f_X12_see (d.1 83 8) d).bind fun x18 =>
    if x18 = 10 then
      k26
    else
    e39 d
def f_X12_advance_L144 (e206 : ya_D → Option ya_D) : Nat → ya_D → Option ya_D
  | 0, _ => none
  | n + 1, d =>
    (f_X12_see (d.1 83 8) d).bind fun x149 =>
    (f_X12_in ((x149).toInt64) 48 57).bind fun x159 =>
    if x159 = 0 then
      e206 d
    else
    (f_X12_see (d.1 83 8) d).bind fun x180 =>
    (ya_pI d 83 11 (ya_min 99999 ((((10 : Int32) * (d.1 83 11)) + x180) - 48))).bind fun d190 =>
    (ya_pI d190 83 8 ((d190.1 83 8) + 1)).bind fun d200 =>
    f_X12_advance_L144 e206 n d200
def f_X12_advance_L83 (e117 : ya_D → Option ya_D) : Nat → ya_D → Option ya_D
  | 0, _ => none
  | n + 1, d =>
    (f_X12_see (d.1 83 8) d).bind fun x88 =>
    (f_X12_in ((x88).toInt64) 97 122).bind fun x98 =>
    if x98 = 0 then
      e117 d
    else
    (ya_pI d 83 8 ((d.1 83 8) + 1)).bind fun d111 =>
    f_X12_advance_L83 e117 n d111
def f_X12_advance (d : ya_D) : Option ya_D :=
  (f_X12_see (d.1 83 8) d).bind fun x5 =>
  ya_j0 (
    (ya_pI d 83 8 ((d.1 83 8) + 1)).bind fun d33 =>
    f_X12_advance_L0  (fun (d_39 : ya_D) =>
      (ya_pI d_39 83 9 (d_39.1 83 8)).bind fun d44 =>
      (f_X12_see (d44.1 83 8) d44).bind fun x52 =>
      if x52 = (-1) then
        (ya_pI d44 83 10 0).bind fun d63 =>
        some d63
      else
      (f_X12_in ((x52).toInt64) 97 122).bind fun x77 =>
      if x77 = 0 then
        (f_X12_in ((x52).toInt64) 48 57).bind fun x133 =>
        if x133 = 0 then
          ya_j1 (fun (t0_226 : Int32) =>
            (ya_pI d44 83 10 t0_226).bind fun d226 =>
            (ya_pI d226 83 8 ((d226.1 83 8) + 1)).bind fun d236 =>
            some d236) fun k226 =>
          if x52 = 59 then
            k226 3
          else
          k226 4
        else
        (ya_pI d44 83 11 0).bind fun d141 =>
        f_X12_advance_L144  (fun (d_206 : ya_D) =>
          (ya_pI d_206 83 10 2).bind fun d208 =>
          some d208) ya_F d141
      else
      f_X12_advance_L83  (fun (d_117 : ya_D) =>
        (ya_pI d_117 83 10 1).bind fun d119 =>
        some d119) ya_F d44) ya_F d33) fun k26 =>
  if x5 = 32 then
    k26
  else
  (f_X12_see (d.1 83 8) d).bind fun x18 =>
  if x18 = 10 then
    k26
  else
  (ya_pI d 83 9 (d.1 83 8)).bind fun d44 =>
  (f_X12_see (d44.1 83 8) d44).bind fun x52 =>
  if x52 = (-1) then
    (ya_pI d44 83 10 0).bind fun d63 =>
    some d63
  else
  (f_X12_in ((x52).toInt64) 97 122).bind fun x77 =>
  if x77 = 0 then
    (f_X12_in ((x52).toInt64) 48 57).bind fun x133 =>
    if x133 = 0 then
      ya_j1 (fun (t0_226 : Int32) =>
        (ya_pI d44 83 10 t0_226).bind fun d226 =>
        (ya_pI d226 83 8 ((d226.1 83 8) + 1)).bind fun d236 =>
        some d236) fun k226 =>
      if x52 = 59 then
        k226 3
      else
      k226 4
    else
    (ya_pI d44 83 11 0).bind fun d141 =>
    f_X12_advance_L144  (fun (d_206 : ya_D) =>
      (ya_pI d_206 83 10 2).bind fun d208 =>
      some d208) ya_F d141
  else
  f_X12_advance_L83  (fun (d_117 : ya_D) =>
    (ya_pI d_117 83 10 1).bind fun d119 =>
    some d119) ya_F d44
def f_X12_good (d : ya_D) : Option Int32 :=
  if (d.1 83 12) = 0 then
    some 1
  else
  some 0
def f_X12_errs (v1 : Int32) (d : ya_D) : Option ya_D :=
  (f_X12_good d).bind fun x1 =>
  if x1 = 0 then
    some d
  else
  (ya_pI d 83 12 v1).bind fun d10 =>
  (ya_pI d10 83 13 (d10.1 83 9)).bind fun d18 =>
  some d18
def f_X12_is_L39 (s1 : Nat) (d : ya_D) : Nat → Int32 → Int32 → Option Int32
  | 0, _, _ => none
  | n + 1, v2, v3 =>
    (ya_sl s1).bind fun x41 =>
    if x41 ≤ v3 then
      (ya_zz v2).bind fun z83 =>
      some z83
    else
    if v2 = 0 then
      (ya_zz v2).bind fun z83 =>
      some z83
    else
    (ya_rI d 87 2000 ((d.1 83 9) + v3)).bind fun x61 =>
    (ya_sc s1 v3).bind fun x64 =>
    ya_j1 (fun (t0_75 : Int32) =>
      f_X12_is_L39 s1 d n t0_75 (v3 + 1)) fun k75 =>
    if x61 = x64 then
      k75 1
    else
    k75 0
def f_X12_is (s1 : Nat) (d : ya_D) : Option Int32 :=
  (f_X12_good d).bind fun x1 =>
  ya_j1 (fun (t0_36 : Int32) =>
    f_X12_is_L39 s1 d ya_F t0_36 0) fun k36 =>
  ya_j0 (
    k36 0) fun k35 =>
  if x1 = 0 then
    k35
  else
  if (d.1 83 10) = 1 then
    (ya_sl s1).bind fun x25 =>
    if ((d.1 83 8) - (d.1 83 9)) = x25 then
      k36 1
    else
    k35
  else
  k35
def f_X12_takes (s1 : Nat) (d : ya_D) : Option (Int32 × ya_D) :=
  (f_X12_is s1 d).bind fun x2 =>
  if x2 = 0 then
    (ya_zz x2).bind fun z15 =>
    some (z15, d)
  else
  (f_X12_advance d).bind fun d11 =>
  (ya_zz x2).bind fun z15 =>
  some (z15, d11)
def f_X12_needs (s1 : Nat) (d : ya_D) : Option ya_D :=
  ya_b2 (f_X12_takes s1 d) fun x2 d2 =>
  if x2 = 0 then
    (f_X12_errs 1 d2).bind fun d10 =>
    some d10
  else
  some d2
def f_X12_number (v1 : Int32) (v2 : Int32) (d : ya_D) : Option (Int32 × ya_D) :=
  (f_X12_good d).bind fun x1 =>
  ya_j1 (fun (d_20 : ya_D) =>
    (f_X12_good d_20).bind fun x21 =>
    ya_j1 (fun (d_47 : ya_D) =>
      (f_X12_good d_47).bind fun x48 =>
      if x48 = 0 then
        some (0, d_47)
      else
      (f_X12_advance d_47).bind fun d62 =>
      some (d_47.1 83 11, d62)) fun k47 =>
    if x21 = 0 then
      k47 d_20
    else
    (f_X12_in ((d_20.1 83 11).toInt64) ((v1).toInt64) ((v2).toInt64)).bind fun x36 =>
    if x36 = 0 then
      (f_X12_errs 2 d_20).bind fun d44 =>
      k47 d44
    else
    k47 d_20) fun k20 =>
  if x1 = 0 then
    k20 d
  else
  if (d.1 83 10) = 2 then
    k20 d
  else
  (f_X12_errs 1 d).bind fun d17 =>
  k20 d17
def f_X12_told (s1 : Nat) (v2 : Int32) (v3 : Int32) (d : ya_D) : Option (Int32 × ya_D) :=
  (f_X12_needs s1 d).bind fun d2 =>
  ya_b2 (f_X12_number v2 v3 d2) fun x8 d8 =>
  some (x8, d8)
def f_X12_fault (v1 : Int32) (d : ya_D) : Option Int32 :=
  if v1 = 0 then
    some (d.1 83 12)
  else
  if v1 = 1 then
    some (d.1 83 13)
  else
  some (-1)
def f_X12_freshThing (d : ya_D) : Option (Int32 × ya_D) :=
  (ya_rI d 89 468 1).bind fun x7 =>
  ya_b2 (f_X12_number 0 (x7 - 1) d) fun x10 d10 =>
  some (x10, d10)
def f_X12_readThing_L37 (v1 : Int32) (v2 : Int32) (e92 : ya_D → Option ya_D) : Nat → Int32 → ya_D → Option ya_D
  | 0, _, _ => none
  | n + 1, v3, d =>
    if 20 ≤ v3 then
      e92 d
    else
    (f_X12_at v1 v3).bind fun x51 =>
    (ya_wI d 89 468 ((11 : Int32) + x51) v2).bind fun d56 =>
    (f_X12_at v1 v3).bind fun x65 =>
    (ya_wI d56 89 468 ((111 : Int32) + x65) v2).bind fun d70 =>
    (f_X12_at v1 v3).bind fun x80 =>
    (ya_wI d70 89 468 ((211 : Int32) + x80) (-1)).bind fun d85 =>
    f_X12_readThing_L37 v1 v2 e92 n (v3 + 1) d85
def f_X12_readThing (d : ya_D) : Option ya_D :=
  (ya_rI d 89 468 1).bind fun x5 =>
  ya_b2 (f_X12_told 17 0 99 d) fun x13 d13 =>
  ya_b2 (f_X12_told 18 0 30 d13) fun x31 d31 =>
  (ya_wI d31 89 468 ((6 : Int32) + x5) x31).bind fun d34 =>
  f_X12_readThing_L37 x5 x13 (fun (d_92 : ya_D) =>
    (ya_rI d_92 89 468 1).bind fun x98 =>
    (ya_wI d_92 89 468 1 (x98 + 1)).bind fun d101 =>
    some d101) ya_F 0 d34
def f_X12_readOn (v1 : Int32) (v2 : Int32) (d : ya_D) : Option ya_D :=
  ya_b2 (f_X12_number 0 (v2 - 1) d) fun x5 d5 =>
  (ya_rI d5 89 468 0).bind fun x18 =>
  ya_b2 (f_X12_told 19 0 (x18 - 1) d5) fun x21 d21 =>
  ya_b2 (f_X12_number 0 99 d21) fun x30 d30 =>
  (f_X12_good d30).bind fun x36 =>
  if x36 = 0 then
    some d30
  else
  (f_X12_at x5 x21).bind fun x50 =>
  (ya_wI d30 89 468 (v1 + x50) x30).bind fun d56 =>
  some d56
def f_X12_readSeller (d : ya_D) : Option ya_D :=
  (ya_rI d 89 468 2).bind fun x9 =>
  ya_b2 (f_X12_freshThing d) fun x19 d19 =>
  (ya_wI d19 89 468 ((311 : Int32) + ((3 : Int32) * x9)) x19).bind fun d22 =>
  ya_b2 (f_X12_told 20 0 99 d22) fun x36 d36 =>
  (ya_wI d36 89 468 (((311 : Int32) + ((3 : Int32) * x9)) + 2) x36).bind fun d39 =>
  ya_b2 (f_X12_told 21 0 99 d39) fun x53 d53 =>
  (ya_wI d53 89 468 (((311 : Int32) + ((3 : Int32) * x9)) + 1) x53).bind fun d56 =>
  (ya_rI d56 89 468 2).bind fun x63 =>
  (ya_wI d56 89 468 2 (x63 + 1)).bind fun d66 =>
  some d66
def f_X12_readBuyer (d : ya_D) : Option ya_D :=
  (ya_rI d 89 468 3).bind fun x10 =>
  ya_b2 (f_X12_freshThing d) fun x20 d20 =>
  (ya_wI d20 89 468 ((426 : Int32) + ((6 : Int32) * x10)) x20).bind fun d23 =>
  ya_b2 (f_X12_told 22 1 9 d23) fun x37 d37 =>
  (ya_wI d37 89 468 (((426 : Int32) + ((6 : Int32) * x10)) + 1) x37).bind fun d40 =>
  ya_b2 (f_X12_told 23 0 99 d40) fun x54 d54 =>
  (ya_wI d54 89 468 (((426 : Int32) + ((6 : Int32) * x10)) + 2) x54).bind fun d57 =>
  (ya_rI d57 89 468 0).bind fun x74 =>
  ya_b2 (f_X12_told 24 0 (x74 - 1) d57) fun x77 d77 =>
  (ya_wI d77 89 468 (((426 : Int32) + ((6 : Int32) * x10)) + 3) x77).bind fun d80 =>
  (ya_rI d80 89 468 (((426 : Int32) + ((6 : Int32) * x10)) + 3)).bind fun x98 =>
  (ya_rI d80 89 468 0).bind fun x104 =>
  ya_b2 (f_X12_told 25 x98 (x104 - 1) d80) fun x107 d107 =>
  (ya_wI d107 89 468 (((426 : Int32) + ((6 : Int32) * x10)) + 4) x107).bind fun d110 =>
  ya_b2 (f_X12_told 26 0 30 d110) fun x124 d124 =>
  (ya_wI d124 89 468 (((426 : Int32) + ((6 : Int32) * x10)) + 5) x124).bind fun d127 =>
  (ya_rI d127 89 468 3).bind fun x134 =>
  (ya_wI d127 89 468 3 (x134 + 1)).bind fun d137 =>
  some d137
def f_X12_readNext (d : ya_D) : Option ya_D :=
  (f_X12_is 10 d).bind fun x3 =>
  ya_j1 (fun (t0_68 : Int32) =>
    ya_j1 (fun (d_78 : ya_D) =>
      (f_X12_is 10 d_78).bind fun x81 =>
      ya_j1 (fun (d_141 : ya_D) =>
        (f_X12_good d_141).bind fun x142 =>
        if x142 = 0 then
          some d_141
        else
        ya_b2 (f_X12_takes 10 d_141) fun x152 d152 =>
        if x152 = 0 then
          ya_b2 (f_X12_takes 11 d152) fun x168 d168 =>
          if x168 = 0 then
            ya_b2 (f_X12_takes 12 d168) fun x192 d192 =>
            if x192 = 0 then
              ya_b2 (f_X12_takes 13 d192) fun x216 d216 =>
              if x216 = 0 then
                ya_b2 (f_X12_takes 14 d216) fun x232 d232 =>
                if x232 = 0 then
                  ya_b2 (f_X12_takes 15 d232) fun x257 d257 =>
                  if x257 = 0 then
                    (f_X12_advance d257).bind fun d271 =>
                    ya_b2 (f_X12_number 0 99 d271) fun x283 d283 =>
                    (ya_wI d283 89 468 5 x283).bind fun d286 =>
                    some d286
                  else
                  (f_X12_readBuyer d257).bind fun d264 =>
                  some d264
                else
                (ya_rI d232 89 468 2).bind fun x247 =>
                (f_X12_readOn 326 x247 d232).bind fun d248 =>
                some d248
              else
              (f_X12_readSeller d216).bind fun d223 =>
              some d223
            else
            (ya_rI d192 89 468 1).bind fun x206 =>
            (f_X12_readOn 111 x206 d192).bind fun d207 =>
            some d207
          else
          (ya_rI d168 89 468 1).bind fun x182 =>
          (f_X12_readOn 11 x182 d168).bind fun d183 =>
          some d183
        else
        (f_X12_readThing d152).bind fun d159 =>
        some d159) fun k141 =>
      ya_j0 (
        (f_X12_errs 3 d_78).bind fun d138 =>
        k141 d138) fun k136 =>
      ya_j0 (
        (f_X12_is 13 d_78).bind fun x100 =>
        ya_j0 (
          (f_X12_is 15 d_78).bind fun x119 =>
          if x119 = 0 then
            k141 d_78
          else
          (ya_rI d_78 89 468 3).bind fun x130 =>
          if x130 = 7 then
            k136
          else
          k141 d_78) fun k116 =>
        if x100 = 0 then
          k116
        else
        (ya_rI d_78 89 468 2).bind fun x111 =>
        if x111 = 5 then
          k136
        else
        k116) fun k97 =>
      if x81 = 0 then
        k97
      else
      (ya_rI d_78 89 468 1).bind fun x92 =>
      if x92 = 5 then
        k136
      else
      k97) fun k78 =>
    if t0_68 = 0 then
      (f_X12_errs 1 d).bind fun d75 =>
      k78 d75
    else
    k78 d) fun k68 =>
  ya_j0 (
    k68 1) fun k63 =>
  if x3 = 0 then
    (f_X12_is 11 d).bind fun x12 =>
    if x12 = 0 then
      (f_X12_is 12 d).bind fun x21 =>
      if x21 = 0 then
        (f_X12_is 13 d).bind fun x30 =>
        if x30 = 0 then
          (f_X12_is 14 d).bind fun x39 =>
          if x39 = 0 then
            (f_X12_is 15 d).bind fun x48 =>
            if x48 = 0 then
              (f_X12_is 16 d).bind fun x57 =>
              if x57 = 0 then
                k68 0
              else
              k63
            else
            k63
          else
          k63
        else
        k63
      else
      k63
    else
    k63
  else
  k63
def f_X12_readLine (d : ya_D) : Option ya_D :=
  (ya_rI d 89 468 4).bind fun x5 =>
  ya_j1 (fun (d_45 : ya_D) =>
    (f_X12_good d_45).bind fun x46 =>
    ya_j1 (fun (d_65 : ya_D) =>
      (f_X12_good d_65).bind fun x66 =>
      ya_j1 (fun (d_76 : ya_D) =>
        (ya_rI d_76 89 468 4).bind fun x82 =>
        (ya_wI d_76 89 468 4 (x82 + 1)).bind fun d85 =>
        some d85) fun k76 =>
      if x66 = 0 then
        k76 d_65
      else
      (f_X12_advance d_65).bind fun d73 =>
      k76 d73) fun k65 =>
    if x46 = 0 then
      k65 d_45
    else
    if (d_45.1 83 10) = 3 then
      k65 d_45
    else
    (f_X12_errs 1 d_45).bind fun d62 =>
    k65 d62) fun k45 =>
  if x5 = 0 then
    (f_X12_needs 8 d).bind fun d12 =>
    ya_b2 (f_X12_told 9 4 20 d12) fun x26 d26 =>
    (ya_wI d26 89 468 0 x26).bind fun d29 =>
    (ya_wI d29 89 468 5 99).bind fun d37 =>
    k45 d37
  else
  (f_X12_readNext d).bind fun d42 =>
  k45 d42
def f_X12_market_L30 (e50 : ya_D → Option (Int32 × ya_D)) : Nat → Int32 → ya_D → Option (Int32 × ya_D)
  | 0, _, _ => none
  | n + 1, v1, d =>
    if 468 ≤ v1 then
      e50 d
    else
    (ya_wI d 89 468 v1 0).bind fun d43 =>
    f_X12_market_L30 e50 n (v1 + 1) d43
def f_X12_market_L54 (e75 : ya_D → Option (Int32 × ya_D)) : Nat → ya_D → Option (Int32 × ya_D)
  | 0, _ => none
  | n + 1, d =>
    (f_X12_good d).bind fun x55 =>
    if x55 = 0 then
      e75 d
    else
    if (d.1 83 10) = 0 then
      e75 d
    else
    (f_X12_readLine d).bind fun d69 =>
    f_X12_market_L54 e75 n d69
def f_X12_market_L87  : Nat → Int32 → ya_D → Option (Int32 × ya_D)
  | 0, _, _ => none
  | n + 1, v1, d =>
    if 468 ≤ v1 then
      (ya_rI d 84 468 4).bind fun x117 =>
      some (x117, d)
    else
    (ya_rI d 89 468 v1).bind fun x104 =>
    (ya_wI d 84 468 v1 x104).bind fun d105 =>
    f_X12_market_L87  n (v1 + 1) d105
def f_X12_market (d : ya_D) : Option (Int32 × ya_D) :=
  (ya_pI d 83 7 (d.1 83 5)).bind fun d5 =>
  (ya_pI d5 83 5 0).bind fun d10 =>
  (ya_pI d10 83 8 0).bind fun d15 =>
  (ya_pI d15 83 12 0).bind fun d20 =>
  (ya_pI d20 83 13 (-1)).bind fun d25 =>
  f_X12_market_L30  (fun (d_50 : ya_D) =>
    (f_X12_advance d_50).bind fun d51 =>
    f_X12_market_L54  (fun (d_75 : ya_D) =>
      (f_X12_good d_75).bind fun x76 =>
      if x76 = 0 then
        some ((-4), d_75)
      else
      f_X12_market_L87  ya_F 0 d_75) ya_F d51) ya_F 0 d25
def f_X12_draw (v1 : Int32) (d : ya_D) : Option (Int32 × ya_D) :=
  (ya_pL d 83 28 (((1103515245 * (d.2 83 28)) + 12345) - ((1103515245 * (d.2 83 28)) + 12345) / 2147483648 * 2147483648)).bind fun d17 =>
  (ya_lrm ((d17.2 83 28) / 65536) ((v1).toInt64)).bind fun x30 =>
  some ((x30).toInt32, d17)
def f_X12_comesTo (v1 : Int32) (v2 : Int32) (d : ya_D) : Option Int32 :=
  (f_X12_at v1 v2).bind fun x9 =>
  (ya_rI d 84 468 ((326 : Int32) + x9)).bind fun x13 =>
  ya_j1 (fun (t0_28 : Int32) =>
    some (x13 + t0_28)) fun k28 =>
  if v2 = 0 then
    (f_X12_seller3 v1 2 d).bind fun x21 =>
    k28 x21
  else
  k28 0
def f_X12_stockOf_L4 (v1 : Int32) (d : ya_D) : Nat → Int32 → Int32 → Option Int32
  | 0, _, _ => none
  | n + 1, v2, v3 =>
    (ya_rI d 84 468 0).bind fun x10 =>
    if x10 ≤ v3 then
      some v2
    else
    (f_X12_at v1 v3).bind fun x21 =>
    (ya_rI d 90 100 x21).bind fun x24 =>
    f_X12_stockOf_L4 v1 d n (v2 + x24) (v3 + 1)
def f_X12_stockOf (v1 : Int32) (d : ya_D) : Option Int32 :=
  f_X12_stockOf_L4 v1 d ya_F 0 0
def f_X12_wantsOn (v1 : Int32) (v2 : Int32) (v3 : Int32) (d : ya_D) : Option Int32 :=
  (f_X12_of v1 0 d).bind fun x3 =>
  ya_j0 (
    some 0) fun k51 =>
  if x3 = v2 then
    (f_X12_of v1 3 d).bind fun x15 =>
    (f_X12_of v1 4 d).bind fun x22 =>
    (f_X12_in ((v3).toInt64) ((x15).toInt64) ((x22).toInt64)).bind fun x26 =>
    if x26 = 0 then
      k51
    else
    (f_X12_of v1 2 d).bind fun x35 =>
    (f_X12_priceOf v2 v3 d).bind fun x41 =>
    if x35 < x41 then
      k51
    else
    some 1
  else
  k51
def f_X12_askedOf_L5 (v1 : Int32) (v2 : Int32) (d : ya_D) : Nat → Int32 → Int32 → Option Int32
  | 0, _, _ => none
  | n + 1, v3, v4 =>
    (ya_rI d 84 468 3).bind fun x12 =>
    if x12 ≤ v4 then
      some v3
    else
    (f_X12_wantsOn v4 v1 v2 d).bind fun x22 =>
    ya_j1 (fun (t0_39 : Int32) =>
      f_X12_askedOf_L5 v1 v2 d n (v3 + t0_39) (v4 + 1)) fun k39 =>
    if x22 = 0 then
      k39 0
    else
    (f_X12_of v4 1 d).bind fun x32 =>
    k39 x32
def f_X12_askedOf (v1 : Int32) (v2 : Int32) (d : ya_D) : Option Int32 :=
  f_X12_askedOf_L5 v1 v2 d ya_F 0 0
def f_X12_spoilsIn_L14 (v1 : Int32) (v2 : Int32) (e92 : ya_D → Option ya_D) : Nat → Int32 → ya_D → Option ya_D
  | 0, _, _ => none
  | n + 1, v3, d =>
    (f_X12_thingOf v2 d).bind fun x18 =>
    (f_X12_keepsOf x18 d).bind fun x21 =>
    if v1 ≤ (v3 + x21) then
      e92 d
    else
    (ya_rI d 97 5 v2).bind fun x35 =>
    (f_X12_at v2 v3).bind fun x42 =>
    (ya_rI d 90 100 x42).bind fun x45 =>
    (ya_wI d 97 5 v2 (x35 + x45)).bind fun d47 =>
    (f_X12_thingOf v2 d47).bind fun x54 =>
    (f_X12_at x54 v1).bind fun x58 =>
    (ya_rI d47 100 100 x58).bind fun x62 =>
    (f_X12_at v2 v3).bind fun x69 =>
    (ya_rI d47 90 100 x69).bind fun x72 =>
    (ya_wI d47 100 100 x58 (x62 + x72)).bind fun d74 =>
    (f_X12_at v2 v3).bind fun x81 =>
    (ya_wI d74 90 100 x81 0).bind fun d85 =>
    f_X12_spoilsIn_L14 v1 v2 e92 n (v3 + 1) d85
def f_X12_spoilsIn_L2 (v1 : Int32) : Nat → Int32 → ya_D → Option ya_D
  | 0, _, _ => none
  | n + 1, v2, d =>
    (ya_rI d 84 468 2).bind fun x8 =>
    if x8 ≤ v2 then
      some d
    else
    f_X12_spoilsIn_L14 v1 v2 (fun (d_92 : ya_D) =>
      (f_X12_at v2 v1).bind fun x98 =>
      (f_X12_comesTo v2 v1 d_92).bind fun x104 =>
      (ya_wI d_92 90 100 x98 x104).bind fun d107 =>
      f_X12_spoilsIn_L2 v1 n (v2 + 1) d107) ya_F 0 d
def f_X12_spoilsIn (v1 : Int32) (d : ya_D) : Option ya_D :=
  f_X12_spoilsIn_L2 v1 ya_F 0 d
def f_X12_offers (v1 : Int32) (v2 : Int32) (v3 : Int32) (d : ya_D) : Option Int32 :=
  (f_X12_thingOf v1 d).bind fun x2 =>
  ya_j0 (
    some 0) fun k28 =>
  if x2 = v2 then
    (f_X12_seller3 v1 1 d).bind fun x12 =>
    (f_X12_priceOf v2 v3 d).bind fun x18 =>
    if x18 < x12 then
      k28
    else
    some 1
  else
  k28
def f_X12_takes__L20 (v1 : Int32) (v2 : Int32) (v5 : Int32) (e121 : Int32 → ya_D → Option ya_D) : Nat → Int32 → Int32 → ya_D → Option ya_D
  | 0, _, _, _ => none
  | n + 1, v4, v6, d =>
    if v2 < v6 then
      e121 v4 d
    else
    (f_X12_offers v5 v1 v2 d).bind fun x31 =>
    if x31 = 0 then
      e121 v4 d
    else
    (f_X12_at v5 v6).bind fun x47 =>
    (ya_rI d 90 100 x47).bind fun x50 =>
    (f_X12_at v5 v6).bind fun x64 =>
    (ya_rI d 90 100 x64).bind fun x68 =>
    (ya_wI d 90 100 x64 (x68 - (ya_min v4 x50))).bind fun d72 =>
    (ya_rI d72 96 5 v5).bind fun x80 =>
    (ya_wI d72 96 5 v5 (x80 + (ya_min v4 x50))).bind fun d84 =>
    (f_X12_at v5 v2).bind fun x92 =>
    (ya_rI d84 94 100 x92).bind fun x96 =>
    (f_X12_priceOf v1 v2 d84).bind fun x102 =>
    (ya_wI d84 94 100 x92 (x96 + ((ya_min v4 x50) * x102))).bind fun d107 =>
    f_X12_takes__L20 v1 v2 v5 e121 n (v4 - (ya_min v4 x50)) (v6 + 1) d107
def f_X12_takes__L6 (v1 : Int32) (v2 : Int32) : Nat → Int32 → Int32 → ya_D → Option ya_D
  | 0, _, _, _ => none
  | n + 1, v4, v5, d =>
    (ya_rI d 84 468 2).bind fun x13 =>
    if x13 ≤ v5 then
      some d
    else
    f_X12_takes__L20 v1 v2 v5 (fun (v4_121 : Int32) (d_121 : ya_D) =>
      f_X12_takes__L6 v1 v2 n v4_121 (v5 + 1) d_121) ya_F v4 0 d
def f_X12_takes_ (v1 : Int32) (v2 : Int32) (v3 : Int32) (d : ya_D) : Option ya_D :=
  f_X12_takes__L6 v1 v2 ya_F v3 0 d
def f_X12_standIn_L6 (v1 : Int32) (v2 : Int32) (v3 : Int32) (e49 : Int32 → ya_D → Option (Int32 × ya_D)) : Nat → Int32 → Int32 → ya_D → Option (Int32 × ya_D)
  | 0, _, _, _ => none
  | n + 1, v4, v5, d =>
    (ya_rI d 84 468 3).bind fun x13 =>
    if x13 ≤ v5 then
      e49 v4 d
    else
    (f_X12_wantsOn v5 v1 v2 d).bind fun x22 =>
    ya_j2 (fun (v4_43 : Int32) (d_43 : ya_D) =>
      f_X12_standIn_L6 v1 v2 v3 e49 n v4_43 (v5 + 1) d_43) fun k43 =>
    if x22 = 0 then
      k43 v4 d
    else
    (ya_wI d 101 7 v4 v5).bind fun d39 =>
    k43 (v4 + 1) d39
def f_X12_standIn_L55 (v3 : Int32) (v4 : Int32) : Nat → Int32 → ya_D → Option (Int32 × ya_D)
  | 0, _, _ => none
  | n + 1, v5, d =>
    if v5 ≤ 0 then
      some (v4, d)
    else
    if v3 = 0 then
      some (v4, d)
    else
    ya_b2 (f_X12_draw (v5 + 1) d) fun x69 d69 =>
    (ya_rI d69 101 7 v5).bind fun x80 =>
    (ya_rI d69 101 7 x69).bind fun x95 =>
    (ya_wI d69 101 7 v5 x95).bind fun d96 =>
    (ya_wI d96 101 7 x69 x80).bind fun d105 =>
    f_X12_standIn_L55 v3 v4 n (v5 + (-1)) d105
def f_X12_standIn (v1 : Int32) (v2 : Int32) (v3 : Int32) (d : ya_D) : Option (Int32 × ya_D) :=
  f_X12_standIn_L6 v1 v2 v3 (fun (v4_49 : Int32) (d_49 : ya_D) =>
    f_X12_standIn_L55 v3 v4_49 ya_F (v4_49 - 1) d_49) ya_F 0 0 d
def f_X12_sellsOn_L5 (v1 : Int32) (v2 : Int32) (d : ya_D) (e46 : Int32 → Option ya_D) : Nat → Int32 → Int32 → Option ya_D
  | 0, _, _ => none
  | n + 1, v3, v4 =>
    (ya_rI d 84 468 2).bind fun x12 =>
    if x12 ≤ v4 then
      e46 v3
    else
    (f_X12_offers v4 v1 v2 d).bind fun x22 =>
    ya_j1 (fun (t0_38 : Int32) =>
      f_X12_sellsOn_L5 v1 v2 d e46 n (v3 + t0_38) (v4 + 1)) fun k38 =>
    if x22 = 0 then
      k38 0
    else
    (f_X12_stockOf v4 d).bind fun x31 =>
    k38 x31
def f_X12_sellsOn_L125 (v1 : Int32) (v2 : Int32) (v3 : Int32) (v6 : Int32) (e205 : Int32 → ya_D → Option ya_D) : Nat → Int32 → Int32 → ya_D → Option ya_D
  | 0, _, _, _ => none
  | n + 1, v7, v8, d =>
    if v6 ≤ v8 then
      e205 v7 d
    else
    (ya_rI d 101 7 v8).bind fun x141 =>
    (f_X12_of x141 1 d).bind fun x143 =>
    (ya_rI d 101 7 v8).bind fun x161 =>
    (ya_rI d 99 7 x161).bind fun x163 =>
    (ya_wI d 99 7 x161 (x163 + (ya_min v7 x143))).bind fun d167 =>
    (ya_rI d167 101 7 v8).bind fun x178 =>
    (ya_rI d167 98 7 x178).bind fun x180 =>
    (f_X12_priceOf v1 v2 d167).bind fun x186 =>
    (ya_wI d167 98 7 x178 (x180 + ((ya_min v7 x143) * x186))).bind fun d191 =>
    f_X12_sellsOn_L125 v1 v2 v3 v6 e205 n (v7 - (ya_min v7 x143)) (v8 + 1) d191
def f_X12_sellsOn (v1 : Int32) (v2 : Int32) (d : ya_D) : Option ya_D :=
  f_X12_sellsOn_L5 v1 v2 d (fun (v3_46 : Int32) =>
    (f_X12_askedOf v1 v2 d).bind fun x49 =>
    (f_X12_at v1 v2).bind fun x60 =>
    (ya_wI d 91 100 x60 v3_46).bind fun d64 =>
    (f_X12_at v1 v2).bind fun x71 =>
    (ya_wI d64 92 100 x71 x49).bind fun d76 =>
    ya_j1 (fun (t0_88 : Int32) =>
      ya_j1 (fun (t0_105 : Int32) =>
        (ya_pI d76 83 27 ((d76.1 83 27) + t0_105)).bind fun d106 =>
        ya_b2 (f_X12_standIn v1 v2 t0_88 d106) fun x114 d114 =>
        f_X12_sellsOn_L125 v1 v2 v3_46 x114 (fun (v7_205 : Int32) (d_205 : ya_D) =>
          (f_X12_at v1 v2).bind fun x211 =>
          (ya_wI d_205 93 100 x211 (v3_46 - v7_205)).bind fun d218 =>
          (f_X12_takes_ v1 v2 (v3_46 - v7_205) d218).bind fun d226 =>
          some d226) ya_F v3_46 0 d114) fun k105 =>
      if t0_88 = 0 then
        k105 0
      else
      k105 1) fun k88 =>
    if x49 ≤ v3_46 then
      k88 0
    else
    k88 1) ya_F 0 0
def f_X12_runs_L12 (e45 : ya_D → Option ya_D) : Nat → Int32 → ya_D → Option ya_D
  | 0, _, _ => none
  | n + 1, v3, d =>
    if 100 ≤ v3 then
      e45 d
    else
    (ya_wI d 90 100 v3 0).bind fun d24 =>
    (ya_wI d24 94 100 v3 0).bind fun d31 =>
    (ya_wI d31 95 100 v3 0).bind fun d38 =>
    f_X12_runs_L12 e45 n (v3 + 1) d38
def f_X12_runs_L47 (e66 : ya_D → Option ya_D) : Nat → Int32 → ya_D → Option ya_D
  | 0, _, _ => none
  | n + 1, v3, d =>
    if 100 ≤ v3 then
      e66 d
    else
    (ya_wI d 100 100 v3 0).bind fun d59 =>
    f_X12_runs_L47 e66 n (v3 + 1) d59
def f_X12_runs_L68 (e93 : ya_D → Option ya_D) : Nat → Int32 → ya_D → Option ya_D
  | 0, _, _ => none
  | n + 1, v3, d =>
    if 5 ≤ v3 then
      e93 d
    else
    (ya_wI d 96 5 v3 0).bind fun d79 =>
    (ya_wI d79 97 5 v3 0).bind fun d86 =>
    f_X12_runs_L68 e93 n (v3 + 1) d86
def f_X12_runs_L95 (e121 : ya_D → Option ya_D) : Nat → Int32 → ya_D → Option ya_D
  | 0, _, _ => none
  | n + 1, v3, d =>
    if 7 ≤ v3 then
      e121 d
    else
    (ya_wI d 98 7 v3 0).bind fun d107 =>
    (ya_wI d107 99 7 v3 0).bind fun d114 =>
    f_X12_runs_L95 e121 n (v3 + 1) d114
def f_X12_runs_L141 (v3 : Int32) (e165 : ya_D → Option ya_D) : Nat → Int32 → ya_D → Option ya_D
  | 0, _, _ => none
  | n + 1, v4, d =>
    (ya_rI d 84 468 1).bind fun x148 =>
    if x148 ≤ v4 then
      e165 d
    else
    (f_X12_sellsOn v4 v3 d).bind fun d156 =>
    f_X12_runs_L141 v3 e165 n (v4 + 1) d156
def f_X12_runs_L168 (v3 : Int32) (e202 : ya_D → Option ya_D) : Nat → Int32 → ya_D → Option ya_D
  | 0, _, _ => none
  | n + 1, v4, d =>
    (ya_rI d 84 468 2).bind fun x175 =>
    if x175 ≤ v4 then
      e202 d
    else
    (f_X12_at v4 v3).bind fun x186 =>
    (f_X12_stockOf v4 d).bind fun x192 =>
    (ya_wI d 95 100 x186 x192).bind fun d195 =>
    f_X12_runs_L168 v3 e202 n (v4 + 1) d195
def f_X12_runs_L123  : Nat → Int32 → ya_D → Option ya_D
  | 0, _, _ => none
  | n + 1, v3, d =>
    (ya_rI d 84 468 0).bind fun x129 =>
    if x129 ≤ v3 then
      some d
    else
    (f_X12_spoilsIn v3 d).bind fun d135 =>
    f_X12_runs_L141 v3 (fun (d_165 : ya_D) =>
      f_X12_runs_L168 v3 (fun (d_202 : ya_D) =>
        f_X12_runs_L123  n (v3 + 1) d_202) ya_F 0 d_165) ya_F 0 d135
def f_X12_runs (v1 : Int64) (d : ya_D) : Option ya_D :=
  (ya_pL d 83 28 v1).bind fun d2 =>
  (ya_pI d2 83 27 0).bind fun d7 =>
  f_X12_runs_L12  (fun (d_45 : ya_D) =>
    f_X12_runs_L47  (fun (d_66 : ya_D) =>
      f_X12_runs_L68  (fun (d_93 : ya_D) =>
        f_X12_runs_L95  (fun (d_121 : ya_D) =>
          f_X12_runs_L123  ya_F 0 d_121) ya_F 0 d_93) ya_F 0 d_66) ya_F 0 d_45) ya_F 0 d7
def f_X12_price (v1 : Int32) (v2 : Int32) (d : ya_D) : Option Int32 :=
  (f_X12_areSo v1 v2 d).bind fun x3 =>
  if x3 = 0 then
    some (-2)
  else
  (f_X12_priceOf v1 v2 d).bind fun x12 =>
  some x12
def f_X12_old (v1 : Int32) (v2 : Int32) (d : ya_D) : Option Int32 :=
  (f_X12_areSo v1 v2 d).bind fun x3 =>
  if x3 = 0 then
    some (-2)
  else
  (f_X12_at v1 v2).bind fun x17 =>
  (ya_rI d 84 468 ((111 : Int32) + x17)).bind fun x21 =>
  some x21
def f_X12_offered (v1 : Int32) (v2 : Int32) (d : ya_D) : Option (Int32 × ya_D) :=
  (f_X12_areSo v1 v2 d).bind fun x3 =>
  if x3 = 0 then
    some ((-2), d)
  else
  (f_X12_runs 1 d).bind fun d14 =>
  (f_X12_at v1 v2).bind fun x23 =>
  (ya_rI d14 91 100 x23).bind fun x26 =>
  some (x26, d14)
def f_X12_asked (v1 : Int32) (v2 : Int32) (d : ya_D) : Option Int32 :=
  (f_X12_areSo v1 v2 d).bind fun x3 =>
  if x3 = 0 then
    some (-2)
  else
  (f_X12_askedOf v1 v2 d).bind fun x12 =>
  some x12
def f_X12_sold (v1 : Int32) (v2 : Int32) (d : ya_D) : Option (Int32 × ya_D) :=
  (f_X12_areSo v1 v2 d).bind fun x3 =>
  if x3 = 0 then
    some ((-2), d)
  else
  (f_X12_runs 1 d).bind fun d14 =>
  (f_X12_at v1 v2).bind fun x23 =>
  (ya_rI d14 93 100 x23).bind fun x26 =>
  some (x26, d14)
def f_X12_allGets_L4 (v1 : Int32) (d : ya_D) : Nat → Int32 → Int32 → Option Int32
  | 0, _, _ => none
  | n + 1, v2, v3 =>
    (ya_rI d 84 468 0).bind fun x10 =>
    if x10 ≤ v3 then
      some v2
    else
    (f_X12_at v1 v3).bind fun x21 =>
    (ya_rI d 94 100 x21).bind fun x24 =>
    f_X12_allGets_L4 v1 d n (v2 + x24) (v3 + 1)
def f_X12_allGets (v1 : Int32) (d : ya_D) : Option Int32 :=
  f_X12_allGets_L4 v1 d ya_F 0 0
def f_X12_bestDay_L4 (v1 : Int32) (d : ya_D) (e49 : Int32 → Option Int32) : Nat → Int32 → Int32 → Option Int32
  | 0, _, _ => none
  | n + 1, v2, v3 =>
    (ya_rI d 84 468 0).bind fun x10 =>
    if x10 ≤ v3 then
      e49 v2
    else
    (f_X12_at v1 v3).bind fun x20 =>
    (ya_rI d 94 100 x20).bind fun x23 =>
    (f_X12_at v1 v2).bind fun x30 =>
    (ya_rI d 94 100 x30).bind fun x33 =>
    ya_j1 (fun (t0_42 : Int32) =>
      f_X12_bestDay_L4 v1 d e49 n t0_42 (v3 + 1)) fun k42 =>
    if x23 ≤ x33 then
      k42 v2
    else
    k42 v3
def f_X12_bestDay (v1 : Int32) (d : ya_D) : Option Int32 :=
  f_X12_bestDay_L4 v1 d (fun (v2_49 : Int32) =>
    (f_X12_at v1 v2_49).bind fun x55 =>
    (ya_rI d 94 100 x55).bind fun x58 =>
    if x58 = 0 then
      some (-1)
    else
    some v2_49) ya_F 0 1
def f_X12_seller (v1 : Int32) (v2 : Int32) (d : ya_D) : Option (Int32 × ya_D) :=
  (f_X12_isSeller v1 d).bind fun x2 =>
  ya_j0 (
    some ((-2), d)) fun k20 =>
  if x2 = 0 then
    k20
  else
  (f_X12_in ((v2).toInt64) 0 4).bind fun x14 =>
  if x14 = 0 then
    k20
  else
  (f_X12_runs 1 d).bind fun d25 =>
  if v2 = 0 then
    (f_X12_allGets v1 d25).bind fun x34 =>
    some (x34, d25)
  else
  if v2 = 1 then
    (ya_rI d25 96 5 v1).bind fun x50 =>
    some (x50, d25)
  else
  if v2 = 2 then
    (ya_rI d25 97 5 v1).bind fun x64 =>
    some (x64, d25)
  else
  if v2 = 3 then
    (f_X12_stockOf v1 d25).bind fun x75 =>
    some (x75, d25)
  else
  (f_X12_bestDay v1 d25).bind fun x83 =>
  some (x83, d25)
def f_X12_gets (v1 : Int32) (v2 : Int32) (d : ya_D) : Option (Int32 × ya_D) :=
  (f_X12_isSeller v1 d).bind fun x2 =>
  ya_j0 (
    some ((-2), d)) fun k17 =>
  if x2 = 0 then
    k17
  else
  (f_X12_isDay ((v2).toInt64) d).bind fun x11 =>
  if x11 = 0 then
    k17
  else
  (f_X12_runs 1 d).bind fun d22 =>
  (f_X12_at v1 v2).bind fun x31 =>
  (ya_rI d22 94 100 x31).bind fun x34 =>
  some (x34, d22)
def f_X12_stock (v1 : Int32) (v2 : Int32) (d : ya_D) : Option (Int32 × ya_D) :=
  (f_X12_isSeller v1 d).bind fun x2 =>
  ya_j0 (
    some ((-2), d)) fun k17 =>
  if x2 = 0 then
    k17
  else
  (f_X12_isDay ((v2).toInt64) d).bind fun x11 =>
  if x11 = 0 then
    k17
  else
  (f_X12_runs 1 d).bind fun d22 =>
  (f_X12_at v1 v2).bind fun x31 =>
  (ya_rI d22 95 100 x31).bind fun x34 =>
  some (x34, d22)
def f_X12_buyer (v1 : Int32) (v2 : Int32) (d : ya_D) : Option (Int32 × ya_D) :=
  (f_X12_isBuyer v1 d).bind fun x2 =>
  ya_j0 (
    some ((-2), d)) fun k20 =>
  if x2 = 0 then
    k20
  else
  (f_X12_in ((v2).toInt64) 0 2).bind fun x14 =>
  if x14 = 0 then
    k20
  else
  (f_X12_runs 1 d).bind fun d25 =>
  if v2 = 0 then
    (ya_rI d25 98 7 v1).bind fun x37 =>
    some (x37, d25)
  else
  if v2 = 1 then
    (ya_rI d25 99 7 v1).bind fun x51 =>
    some (x51, d25)
  else
  (f_X12_of v1 1 d25).bind fun x58 =>
  (f_X12_of v1 4 d25).bind fun x64 =>
  (f_X12_of v1 3 d25).bind fun x70 =>
  (ya_rI d25 99 7 v1).bind fun x82 =>
  some ((x58 * ((x64 - x70) + 1)) - x82, d25)
def f_X12_moneyOn_L4 (v1 : Int32) (d : ya_D) : Nat → Int32 → Int32 → Option Int32
  | 0, _, _ => none
  | n + 1, v2, v3 =>
    (ya_rI d 84 468 2).bind fun x10 =>
    if x10 ≤ v3 then
      some v2
    else
    (f_X12_at v3 v1).bind fun x21 =>
    (ya_rI d 94 100 x21).bind fun x24 =>
    f_X12_moneyOn_L4 v1 d n (v2 + x24) (v3 + 1)
def f_X12_moneyOn (v1 : Int32) (d : ya_D) : Option Int32 :=
  f_X12_moneyOn_L4 v1 d ya_F 0 0
def f_X12_soldOn_L4 (v1 : Int32) (d : ya_D) : Nat → Int32 → Int32 → Option Int32
  | 0, _, _ => none
  | n + 1, v2, v3 =>
    (ya_rI d 84 468 1).bind fun x10 =>
    if x10 ≤ v3 then
      some v2
    else
    (f_X12_at v3 v1).bind fun x21 =>
    (ya_rI d 93 100 x21).bind fun x24 =>
    f_X12_soldOn_L4 v1 d n (v2 + x24) (v3 + 1)
def f_X12_soldOn (v1 : Int32) (d : ya_D) : Option Int32 :=
  f_X12_soldOn_L4 v1 d ya_F 0 0
def f_X12_rich_L34 (v1 : Int32) (d : ya_D) (e89 : Int32 → Int32 → Option (Int32 × ya_D)) : Nat → Int32 → Int32 → Int32 → Option (Int32 × ya_D)
  | 0, _, _, _ => none
  | n + 1, v2, v3, v4 =>
    (ya_rI d 84 468 0).bind fun x41 =>
    if x41 ≤ v4 then
      e89 v2 v3
    else
    (f_X12_moneyOn v4 d).bind fun x48 =>
    (f_X12_moneyOn v2 d).bind fun x53 =>
    ya_j1 (fun (t0_65 : Int32) =>
      (f_X12_soldOn v4 d).bind fun x70 =>
      ya_j1 (fun (t0_81 : Int32) =>
        f_X12_rich_L34 v1 d e89 n t0_65 (v3 + t0_81) (v4 + 1)) fun k81 =>
      if x70 = 0 then
        k81 1
      else
      k81 0) fun k65 =>
    if x48 ≤ x53 then
      k65 v2
    else
    k65 v4
def f_X12_rich (v1 : Int32) (d : ya_D) : Option (Int32 × ya_D) :=
  (f_X12_isMarket d).bind fun x1 =>
  ya_j0 (
    some ((-2), d)) fun k19 =>
  if x1 = 0 then
    k19
  else
  (f_X12_in ((v1).toInt64) 0 3).bind fun x13 =>
  if x13 = 0 then
    k19
  else
  (f_X12_runs 1 d).bind fun d24 =>
  f_X12_rich_L34 v1 d24 (fun (v2_89 : Int32) (v3_89 : Int32) =>
    if v1 = 0 then
      (ya_rI d24 84 468 0).bind fun x99 =>
      if v3_89 = x99 then
        some ((-1), d24)
      else
      some (v2_89, d24)
    else
    if v1 = 1 then
      (f_X12_moneyOn v2_89 d24).bind fun x118 =>
      some (x118, d24)
    else
    if v1 = 2 then
      some (v3_89, d24)
    else
    some (d24.1 83 27, d24)) ya_F 0 0 0
def f_X12_canFill_L12 (v1 : Int32) (v2 : Int32) (e40 : ya_D → Option (Int32 × ya_D)) : Nat → Int32 → ya_D → Option (Int32 × ya_D)
  | 0, _, _ => none
  | n + 1, v3, d =>
    (ya_rI d 84 468 0).bind fun x18 =>
    if x18 ≤ v3 then
      e40 d
    else
    (f_X12_comesTo v1 v3 d).bind fun x30 =>
    (ya_wI d 103 20 v3 x30).bind fun d33 =>
    f_X12_canFill_L12 v1 v2 e40 n (v3 + 1) d33
def f_X12_canFill_L69 (v2 : Int32) (v3 : Int32) (e119 : Int32 → ya_D → Option (Int32 × ya_D)) : Nat → Int32 → Int32 → ya_D → Option (Int32 × ya_D)
  | 0, _, _, _ => none
  | n + 1, v4, v5, d =>
    if v3 < v5 then
      e119 v4 d
    else
    if v4 ≤ 0 then
      e119 v4 d
    else
    (ya_rI d 103 20 v5).bind fun x88 =>
    (ya_rI d 103 20 v5).bind fun x101 =>
    (ya_wI d 103 20 v5 (x101 - (ya_min v4 x88))).bind fun d105 =>
    f_X12_canFill_L69 v2 v3 e119 n (v4 - (ya_min v4 x88)) (v5 + 1) d105
def f_X12_canFill_L42 (v2 : Int32) : Nat → Int32 → ya_D → Option (Int32 × ya_D)
  | 0, _, _ => none
  | n + 1, v3, d =>
    (ya_rI d 84 468 0).bind fun x48 =>
    if x48 ≤ v3 then
      some (1, d)
    else
    (ya_rI d 102 20 v3).bind fun x57 =>
    f_X12_canFill_L69 v2 v3 (fun (v4_119 : Int32) (d_119 : ya_D) =>
      if v4_119 ≤ 0 then
        f_X12_canFill_L42 v2 n (v3 + 1) d_119
      else
      some (0, d_119)) ya_F x57 (ya_max 0 (v3 - v2)) d
def f_X12_canFill (v1 : Int32) (d : ya_D) : Option (Int32 × ya_D) :=
  (f_X12_thingOf v1 d).bind fun x3 =>
  (f_X12_keepsOf x3 d).bind fun x6 =>
  f_X12_canFill_L12 v1 x6 (fun (d_40 : ya_D) =>
    f_X12_canFill_L42 x6 ya_F 0 d_40) ya_F 0 d
def f_X12_fillsUp_L6 (v1 : Int32) (v2 : Int32) : Nat → Int32 → Int32 → ya_D → Option ya_D
  | 0, _, _, _ => none
  | n + 1, v4, v5, d =>
    if v5 ≤ v4 then
      (ya_wI d 102 20 v2 v4).bind fun d67 =>
      some d67
    else
    (ya_wI d 102 20 v2 (((v4 + v5) + 1) / 2)).bind fun d27 =>
    ya_b2 (f_X12_canFill v1 d27) fun x30 d30 =>
    if x30 = 0 then
      (ya_rI d30 102 20 v2).bind fun x52 =>
      f_X12_fillsUp_L6 v1 v2 n v4 (x52 - 1) d30
    else
    (ya_rI d30 102 20 v2).bind fun x41 =>
    f_X12_fillsUp_L6 v1 v2 n x41 v5 d30
def f_X12_fillsUp (v1 : Int32) (v2 : Int32) (v3 : Int32) (d : ya_D) : Option ya_D :=
  f_X12_fillsUp_L6 v1 v2 ya_F 0 v3 d
def f_X12_bestBut_L15 (v1 : Int32) (v2 : Int32) (v3 : Int32) (v4 : Int32) (v5 : Int32) (e40 : ya_D → Option (Int32 × ya_D)) : Nat → Int32 → ya_D → Option (Int32 × ya_D)
  | 0, _, _ => none
  | n + 1, v6, d =>
    (ya_rI d 84 468 0).bind fun x22 =>
    if x22 ≤ v6 then
      e40 d
    else
    (ya_wI d 102 20 v6 0).bind fun d33 =>
    f_X12_bestBut_L15 v1 v2 v3 v4 v5 e40 n (v6 + 1) d33
def f_X12_bestBut_L60 (v1 : Int32) (v2 : Int32) (v3 : Int32) (v4 : Int32) (v5 : Int32) (v6 : Int32) (d : ya_D) (e114 : Int32 → Option (Int32 × ya_D)) : Nat → Int32 → Int32 → Option (Int32 × ya_D)
  | 0, _, _ => none
  | n + 1, v7, v8 =>
    (ya_rI d 84 468 0).bind fun x67 =>
    if x67 ≤ v8 then
      e114 v7
    else
    ya_j1 (fun (v7_108 : Int32) =>
      f_X12_bestBut_L60 v1 v2 v3 v4 v5 v6 d e114 n v7_108 (v8 + 1)) fun k108 =>
    if ((v4 >>> (v8 &&& 31)) &&& 1) = 0 then
      ya_j0 (
        k108 v8) fun k104 =>
      if v7 = (-1) then
        k104
      else
      (f_X12_priceOf v3 v8 d).bind fun x91 =>
      (f_X12_priceOf v3 v7 d).bind fun x98 =>
      if x91 ≤ x98 then
        k108 v7
      else
      k104
    else
    k108 v7
def f_X12_bestBut_L43 (v1 : Int32) (v2 : Int32) (v3 : Int32) : Nat → Int32 → Int32 → Int32 → ya_D → Option (Int32 × ya_D)
  | 0, _, _, _, _ => none
  | n + 1, v4, v5, v6, d =>
    (ya_rI d 84 468 0).bind fun x50 =>
    if x50 ≤ v6 then
      some (v5, d)
    else
    f_X12_bestBut_L60 v1 v2 v3 v4 v5 v6 d (fun (v7_114 : Int32) =>
      ya_j2 (fun (v5_176 : Int32) (d_176 : ya_D) =>
        f_X12_bestBut_L43 v1 v2 v3 n (v4 ||| ((1 : Int32) <<< (v7_114 &&& 31))) v5_176 (v6 + 1) d_176) fun k176 =>
      if v7_114 = v2 then
        k176 v5 d
      else
      (f_X12_priceOf v3 v7_114 d).bind fun x133 =>
      if x133 = 0 then
        k176 v5 d
      else
      (f_X12_askedOf v3 v7_114 d).bind fun x150 =>
      (f_X12_fillsUp v1 v7_114 x150 d).bind fun d153 =>
      (ya_rI d153 102 20 v7_114).bind fun x164 =>
      (f_X12_priceOf v3 v7_114 d153).bind fun x169 =>
      k176 (v5 + (x164 * x169)) d153) ya_F (-1) 0
def f_X12_bestBut (v1 : Int32) (v2 : Int32) (d : ya_D) : Option (Int32 × ya_D) :=
  (f_X12_thingOf v1 d).bind fun x2 =>
  f_X12_bestBut_L15 v1 v2 x2 0 0 (fun (d_40 : ya_D) =>
    f_X12_bestBut_L43 v1 v2 x2 ya_F 0 0 0 d_40) ya_F 0 d
def f_X12_best (v1 : Int32) (d : ya_D) : Option (Int32 × ya_D) :=
  (f_X12_isSeller v1 d).bind fun x2 =>
  if x2 = 0 then
    some ((-2), d)
  else
  ya_b2 (f_X12_bestBut v1 (-1) d) fun x11 d11 =>
  some (x11, d11)
def f_X12_worth (v1 : Int32) (v2 : Int32) (d : ya_D) : Option (Int32 × ya_D) :=
  (f_X12_isSeller v1 d).bind fun x2 =>
  ya_j0 (
    some ((-2), d)) fun k33 =>
  if x2 = 0 then
    k33
  else
  (f_X12_isDay ((v2).toInt64) d).bind fun x11 =>
  if x11 = 0 then
    k33
  else
  ya_b2 (f_X12_bestBut v1 (-1) d) fun x20 d20 =>
  ya_b2 (f_X12_bestBut v1 v2 d20) fun x26 d26 =>
  some (x20 - x26, d26)
def f_X12_thursday_L34 (v1 : Int32) : Nat → Int32 → Int32 → Int32 → ya_D → Option (Int32 × ya_D)
  | 0, _, _, _, _ => none
  | n + 1, v2, v3, v4, d =>
    (ya_rI d 84 468 0).bind fun x41 =>
    if x41 ≤ v4 then
      some (v2, d)
    else
    ya_b2 (f_X12_bestBut v1 v4 d) fun x49 d49 =>
    ya_j2 (fun (v2_69 : Int32) (v3_69 : Int32) =>
      f_X12_thursday_L34 v1 n v2_69 v3_69 (v4 + 1) d49) fun k69 =>
    if x49 < v3 then
      k69 v4 x49
    else
    k69 v2 v3
def f_X12_thursday (v1 : Int32) (d : ya_D) : Option (Int32 × ya_D) :=
  (f_X12_isSeller v1 d).bind fun x2 =>
  if x2 = 0 then
    some ((-2), d)
  else
  ya_b2 (f_X12_bestBut v1 (-1) d) fun x14 d14 =>
  if x14 = 0 then
    some ((-1), d14)
  else
  ya_b2 (f_X12_bestBut v1 0 d14) fun x27 d27 =>
  f_X12_thursday_L34 v1 ya_F 0 x27 1 d27
def f_X12_setAsks (v1 : Int32) (v2 : Int32) (d : ya_D) : Option ya_D :=
  (ya_wI d 84 468 (((311 : Int32) + ((3 : Int32) * v1)) + 1) v2).bind fun d14 =>
  some d14
def f_X12_asks_L26 (v1 : Int32) (v2 : Int32) : Nat → Int32 → Int32 → Int32 → ya_D → Option (Int32 × ya_D)
  | 0, _, _, _, _ => none
  | n + 1, v3, v4, v5, d =>
    if 99 < v5 then
      (f_X12_setAsks v1 v2 d).bind fun d77 =>
      some (v3, d77)
    else
    (f_X12_setAsks v1 v5 d).bind fun d37 =>
    (f_X12_runs 1 d37).bind fun d42 =>
    (f_X12_allGets v1 d42).bind fun x47 =>
    ya_j2 (fun (v3_68 : Int32) (v4_68 : Int32) =>
      f_X12_asks_L26 v1 v2 n v3_68 v4_68 (v5 + 1) d42) fun k68 =>
    if v4 < x47 then
      (f_X12_allGets v1 d42).bind fun x63 =>
      k68 v5 x63
    else
    k68 v3 v4
def f_X12_asks (v1 : Int32) (d : ya_D) : Option (Int32 × ya_D) :=
  (f_X12_isSeller v1 d).bind fun x2 =>
  if x2 = 0 then
    some ((-2), d)
  else
  (f_X12_seller3 v1 1 d).bind fun x14 =>
  f_X12_asks_L26 v1 x14 ya_F (-1) (-1) 0 d
def f_X12_hold (v1 : Int32) (v2 : Int32) (d : ya_D) : Option (Int32 × ya_D) :=
  (f_X12_isSeller v1 d).bind fun x2 =>
  ya_j0 (
    some ((-2), d)) fun k20 =>
  if x2 = 0 then
    k20
  else
  (f_X12_in ((v2).toInt64) 0 99).bind fun x14 =>
  if x14 = 0 then
    k20
  else
  (f_X12_seller3 v1 1 d).bind fun x26 =>
  (f_X12_setAsks v1 v2 d).bind fun d33 =>
  some (x26, d33)
def f_X12_buyDay_L31 (v2 : Int32) (v3 : Int32) (v5 : Int32) (d : ya_D) : Nat → Int32 → Int32 → Option Int32
  | 0, _, _ => none
  | n + 1, v4, v6 =>
    if v6 < 0 then
      some v4
    else
    if v6 < (v2 - v5) then
      some v4
    else
    (f_X12_priceOf v3 v6 d).bind fun x49 =>
    (f_X12_priceOf v3 v4 d).bind fun x56 =>
    ya_j1 (fun (t0_69 : Int32) =>
      f_X12_buyDay_L31 v2 v3 v5 d n t0_69 (v6 + (-1))) fun k69 =>
    if x56 ≤ x49 then
      k69 v4
    else
    k69 v6
def f_X12_buyDay (v1 : Int32) (v2 : Int32) (d : ya_D) : Option Int32 :=
  (f_X12_of v1 0 d).bind fun x3 =>
  (f_X12_of v1 5 d).bind fun x13 =>
  (f_X12_keepsOf x3 d).bind fun x18 =>
  f_X12_buyDay_L31 v2 x3 (ya_min x13 x18) d ya_F v2 (v2 - 1)
def f_X12_buysOn_L10 (v1 : Int32) (v2 : Int32) (d : ya_D) : Nat → Int32 → Int32 → Option Int32
  | 0, _, _ => none
  | n + 1, v3, v4 =>
    (f_X12_of v1 4 d).bind fun x15 =>
    if x15 < v4 then
      some v3
    else
    (f_X12_buyDay v1 v4 d).bind fun x26 =>
    ya_j1 (fun (t0_43 : Int32) =>
      f_X12_buysOn_L10 v1 v2 d n (v3 + t0_43) (v4 + 1)) fun k43 =>
    if x26 = v2 then
      (f_X12_of v1 1 d).bind fun x36 =>
      k43 x36
    else
    k43 0
def f_X12_buysOn (v1 : Int32) (v2 : Int32) (d : ya_D) : Option Int32 :=
  (f_X12_of v1 3 d).bind fun x5 =>
  f_X12_buysOn_L10 v1 v2 d ya_F 0 x5
def f_X12_cheapest_L20 (v1 : Int32) (d : ya_D) : Nat → Int32 → Int32 → Option Int32
  | 0, _, _ => none
  | n + 1, v2, v3 =>
    (f_X12_of v1 4 d).bind fun x24 =>
    if x24 < v3 then
      some v2
    else
    (f_X12_of v1 1 d).bind fun x34 =>
    (f_X12_of v1 0 d).bind fun x41 =>
    (f_X12_buyDay v1 v3 d).bind fun x47 =>
    (f_X12_priceOf x41 x47 d).bind fun x50 =>
    f_X12_cheapest_L20 v1 d n (v2 + (x34 * x50)) (v3 + 1)
def f_X12_cheapest (v1 : Int32) (d : ya_D) : Option Int32 :=
  (f_X12_isBuyer v1 d).bind fun x2 =>
  if x2 = 0 then
    some (-2)
  else
  (f_X12_of v1 3 d).bind fun x16 =>
  f_X12_cheapest_L20 v1 d ya_F 0 x16
def f_X12_buys (v1 : Int32) (v2 : Int32) (d : ya_D) : Option Int32 :=
  (f_X12_isBuyer v1 d).bind fun x2 =>
  ya_j0 (
    some (-2)) fun k26 =>
  if x2 = 0 then
    k26
  else
  (f_X12_isDay ((v2).toInt64) d).bind fun x11 =>
  if x11 = 0 then
    k26
  else
  (f_X12_buysOn v1 v2 d).bind fun x20 =>
  some x20
def f_X12_crowd_L15 (v1 : Int32) (d : ya_D) : Nat → Int32 → Int32 → Option Int32
  | 0, _, _ => none
  | n + 1, v2, v3 =>
    (ya_rI d 84 468 0).bind fun x21 =>
    if x21 ≤ v3 then
      some v2
    else
    (f_X12_buysOn v1 v3 d).bind fun x28 =>
    (f_X12_buysOn v1 v2 d).bind fun x34 =>
    ya_j1 (fun (t0_45 : Int32) =>
      f_X12_crowd_L15 v1 d n t0_45 (v3 + 1)) fun k45 =>
    if x28 ≤ x34 then
      k45 v2
    else
    k45 v3
def f_X12_crowd (v1 : Int32) (d : ya_D) : Option Int32 :=
  (f_X12_isBuyer v1 d).bind fun x2 =>
  if x2 = 0 then
    some (-2)
  else
  f_X12_crowd_L15 v1 d ya_F 0 1
def f_X12_mark (v1 : Int32) (v2 : Int32) (v3 : Int32) (d : ya_D) : Option (Int32 × ya_D) :=
  (f_X12_areSo v1 v2 d).bind fun x3 =>
  ya_j0 (
    some ((-2), d)) fun k21 =>
  if x3 = 0 then
    k21
  else
  (f_X12_in ((v3).toInt64) 0 99).bind fun x15 =>
  if x15 = 0 then
    k21
  else
  (f_X12_priceOf v1 v2 d).bind fun x28 =>
  (ya_rI d 84 468 5).bind fun x36 =>
  (f_X12_at v1 v2).bind fun x52 =>
  (ya_wI d 84 468 ((211 : Int32) + x52) (ya_min v3 (x28 + x36))).bind fun d58 =>
  some (ya_min v3 (x28 + x36), d58)
def f_X12_isMarked (v1 : Int32) (d : ya_D) : Option Int32 :=
  (ya_rI d 84 468 ((211 : Int32) + v1)).bind fun x9 =>
  ya_j0 (
    some 0) fun k40 =>
  if x9 = (-1) then
    k40
  else
  (ya_rI d 84 468 ((211 : Int32) + v1)).bind fun x23 =>
  (ya_rI d 84 468 ((11 : Int32) + v1)).bind fun x32 =>
  if x23 = x32 then
    k40
  else
  some 1
def f_X12_markedMany_L16 (v2 : Int32) (d : ya_D) (e52 : Int32 → Option Int32) : Nat → Int32 → Int32 → Option Int32
  | 0, _, _ => none
  | n + 1, v1, v3 =>
    (ya_rI d 84 468 0).bind fun x22 =>
    if x22 ≤ v3 then
      e52 v1
    else
    (f_X12_at v2 v3).bind fun x30 =>
    (f_X12_isMarked x30 d).bind fun x33 =>
    ya_j1 (fun (t0_44 : Int32) =>
      f_X12_markedMany_L16 v2 d e52 n (v1 + t0_44) (v3 + 1)) fun k44 =>
    if x33 = 0 then
      k44 0
    else
    k44 1
def f_X12_markedMany_L4 (d : ya_D) : Nat → Int32 → Int32 → Option Int32
  | 0, _, _ => none
  | n + 1, v1, v2 =>
    (ya_rI d 84 468 1).bind fun x10 =>
    if x10 ≤ v2 then
      some v1
    else
    f_X12_markedMany_L16 v2 d (fun (v1_52 : Int32) =>
      f_X12_markedMany_L4 d n v1_52 (v2 + 1)) ya_F v1 0
def f_X12_markedMany (d : ya_D) : Option Int32 :=
  f_X12_markedMany_L4 d ya_F 0 0
def f_X12_turn_L17 (v1 : Int32) : Nat → Int32 → ya_D → Option (Int32 × ya_D)
  | 0, _, _ => none
  | n + 1, v2, d =>
    if 100 ≤ v2 then
      some (v1, d)
    else
    (ya_rI d 84 468 ((11 : Int32) + v2)).bind fun x31 =>
    (ya_rI d 84 468 ((211 : Int32) + v2)).bind fun x50 =>
    ya_j1 (fun (t0_69 : Int32) =>
      (ya_wI d 84 468 ((11 : Int32) + v2) t0_69).bind fun d69 =>
      (ya_wI d69 84 468 ((111 : Int32) + v2) x31).bind fun d79 =>
      (ya_wI d79 84 468 ((211 : Int32) + v2) (-1)).bind fun d90 =>
      f_X12_turn_L17 v1 n (v2 + 1) d90) fun k69 =>
    if x50 = (-1) then
      k69 x31
    else
    (ya_rI d 84 468 ((211 : Int32) + v2)).bind fun x68 =>
    k69 x68
def f_X12_turn (d : ya_D) : Option (Int32 × ya_D) :=
  (f_X12_isMarket d).bind fun x1 =>
  if x1 = 0 then
    some ((-2), d)
  else
  (f_X12_markedMany d).bind fun x11 =>
  f_X12_turn_L17 x11 ya_F 0 d
def f_X12_madeBy (v1 : Int32) (v2 : Int32) (v3 : Int32) (d : ya_D) : Option (Int32 × ya_D) :=
  (f_X12_thingOf v1 d).bind fun x4 =>
  (f_X12_at x4 v2).bind fun x8 =>
  (ya_rI d 84 468 ((11 : Int32) + x8)).bind fun x20 =>
  ya_b2 (f_X12_bestBut v1 (-1) d) fun x26 d26 =>
  (ya_wI d26 84 468 ((11 : Int32) + x8) v3).bind fun d38 =>
  ya_b2 (f_X12_bestBut v1 (-1) d38) fun x42 d42 =>
  (ya_wI d42 84 468 ((11 : Int32) + x8) x20).bind fun d55 =>
  some (x42 - x26, d55)
def f_X12_made (v1 : Int32) (v2 : Int32) (v3 : Int32) (d : ya_D) : Option (Int32 × ya_D) :=
  (f_X12_isSeller v1 d).bind fun x2 =>
  ya_j0 (
    some ((-1000000), d)) fun k39 =>
  if x2 = 0 then
    k39
  else
  (f_X12_isDay ((v2).toInt64) d).bind fun x11 =>
  if x11 = 0 then
    k39
  else
  (f_X12_in ((v3).toInt64) 0 99).bind fun x23 =>
  if x23 = 0 then
    k39
  else
  ya_b2 (f_X12_madeBy v1 v2 v3 d) fun x33 d33 =>
  some (x33, d33)
def f_X12_least_L35 (v1 : Int32) (v2 : Int32) (v3 : Int32) : Nat → Int32 → ya_D → Option (Int32 × ya_D)
  | 0, _, _ => none
  | n + 1, v4, d =>
    if 99 < v4 then
      some ((-1), d)
    else
    ya_b2 (f_X12_madeBy v1 v2 v4 d) fun x47 d47 =>
    if x47 < v3 then
      f_X12_least_L35 v1 v2 v3 n (v4 + 1) d47
    else
    some (v4, d47)
def f_X12_least (v1 : Int32) (v2 : Int32) (v3 : Int32) (d : ya_D) : Option (Int32 × ya_D) :=
  (f_X12_isSeller v1 d).bind fun x2 =>
  ya_j0 (
    some ((-2), d)) fun k29 =>
  if x2 = 0 then
    k29
  else
  (f_X12_isDay ((v2).toInt64) d).bind fun x11 =>
  if x11 = 0 then
    k29
  else
  (f_X12_in ((v3).toInt64) 1 9999).bind fun x23 =>
  if x23 = 0 then
    k29
  else
  f_X12_least_L35 v1 v2 v3 ya_F 0 d
def f_X12_most_L57 (v1 : Int32) (v4 : Int32) (v5 : Int32) (e102 : Int32 → Int32 → ya_D → Option (Int32 × ya_D)) : Nat → Int32 → Int32 → Int32 → ya_D → Option (Int32 × ya_D)
  | 0, _, _, _, _ => none
  | n + 1, v2, v3, v6, d =>
    if v5 < v6 then
      e102 v2 v3 d
    else
    ya_b2 (f_X12_madeBy v1 v4 v6 d) fun x70 d70 =>
    ya_j2 (fun (v2_96 : Int32) (v3_96 : Int32) =>
      f_X12_most_L57 v1 v4 v5 e102 n v2_96 v3_96 (v6 + 1) d70) fun k96 =>
    if v3 < x70 then
      k96 (((100 : Int32) * v4) + v6) x70
    else
    k96 v2 v3
def f_X12_most_L18 (v1 : Int32) : Nat → Int32 → Int32 → Int32 → ya_D → Option (Int32 × ya_D)
  | 0, _, _, _, _ => none
  | n + 1, v2, v3, v4, d =>
    (ya_rI d 84 468 0).bind fun x25 =>
    if x25 ≤ v4 then
      some (v2, d)
    else
    (f_X12_thingOf v1 d).bind fun x34 =>
    (f_X12_priceOf x34 v4 d).bind fun x39 =>
    (ya_rI d 84 468 5).bind fun x47 =>
    f_X12_most_L57 v1 v4 (ya_min 99 (x39 + x47)) (fun (v2_102 : Int32) (v3_102 : Int32) (d_102 : ya_D) =>
      f_X12_most_L18 v1 n v2_102 v3_102 (v4 + 1) d_102) ya_F v2 v3 0 d
def f_X12_most (v1 : Int32) (d : ya_D) : Option (Int32 × ya_D) :=
  (f_X12_isSeller v1 d).bind fun x2 =>
  if x2 = 0 then
    some ((-2), d)
  else
  f_X12_most_L18 v1 ya_F (-1) 0 0 d
def f_X12_leap (v1 : Int32) (v2 : Int32) (v3 : Int32) (d : ya_D) : Option Int32 :=
  (f_X12_areSo v1 v2 d).bind fun x3 =>
  ya_j0 (
    some (-2)) fun k21 =>
  if x3 = 0 then
    k21
  else
  (f_X12_in ((v3).toInt64) 0 2).bind fun x15 =>
  if x15 = 0 then
    k21
  else
  (f_X12_priceOf v1 v2 d).bind fun x27 =>
  (ya_rI d 84 468 0).bind fun x42 =>
  (ya_rm (v2 + 1) x42).bind fun x43 =>
  (f_X12_priceOf v1 x43 d).bind fun x44 =>
  if v3 = 0 then
    some x27
  else
  if v3 = 1 then
    some x44
  else
  some ((x27 + x44) / 2)
def f_X12_comeAt_L6 (v1 : Int32) (v2 : Int32) (v3 : Int32) (d : ya_D) : Nat → Int32 → Int32 → Option Int32
  | 0, _, _ => none
  | n + 1, v4, v5 =>
    (ya_rI d 84 468 3).bind fun x13 =>
    if x13 ≤ v5 then
      some v4
    else
    (f_X12_of v5 0 d).bind fun x23 =>
    ya_j1 (fun (t0_70 : Int32) =>
      f_X12_comeAt_L6 v1 v2 v3 d n (v4 + t0_70) (v5 + 1)) fun k70 =>
    ya_j0 (
      k70 0) fun k69 =>
    if x23 = v1 then
      (f_X12_of v5 3 d).bind fun x36 =>
      (f_X12_of v5 4 d).bind fun x44 =>
      (f_X12_in ((v2).toInt64) ((x36).toInt64) ((x44).toInt64)).bind fun x48 =>
      if x48 = 0 then
        k69
      else
      (f_X12_of v5 2 d).bind fun x58 =>
      if x58 < v3 then
        k69
      else
      k70 1
    else
    k69
def f_X12_comeAt (v1 : Int32) (v2 : Int32) (v3 : Int32) (d : ya_D) : Option Int32 :=
  f_X12_comeAt_L6 v1 v2 v3 d ya_F 0 0
def f_X12_come (v1 : Int32) (v2 : Int32) (v3 : Int32) (d : ya_D) : Option Int32 :=
  (f_X12_areSo v1 v2 d).bind fun x3 =>
  ya_j0 (
    some (-2)) fun k31 =>
  if x3 = 0 then
    k31
  else
  (f_X12_in ((v3).toInt64) 0 99).bind fun x15 =>
  if x15 = 0 then
    k31
  else
  (f_X12_comeAt v1 v2 v3 d).bind fun x25 =>
  some x25
def f_X12_numberAt (v1 : Int32) (v2 : Int32) (d : ya_D) : Option Int64 :=
  (ya_rL d 106 240 (((60 : Int32) * v1) + v2)).bind fun x10 =>
  some x10
def f_X12_isSlot (v0 : Int32) : Option Int32 :=
  (f_X12_in ((v0).toInt64) 0 3).bind fun x6 =>
  (ya_zz x6).bind fun z9 =>
  some z9
def f_X12_asksCrowds_L43 (v1 : Int32) (d : ya_D) (e81 : Option Int32) : Nat → Int32 → Option Int32
  | 0, _ => none
  | n + 1, v3 =>
    (ya_rI d 104 4 v1).bind fun x49 =>
    if x49 ≤ v3 then
      some 0
    else
    (f_X12_numberAt v1 v3 d).bind fun x57 =>
    (f_X12_isThing x57 d).bind fun x60 =>
    if x60 = 0 then
      e81
    else
    (f_X12_numberAt v1 (v3 + 1) d).bind fun x72 =>
    (f_X12_isDay x72 d).bind fun x75 =>
    if x75 = 0 then
      e81
    else
    f_X12_asksCrowds_L43 v1 d e81 n (v3 + 3)
def f_X12_asksCrowds (v1 : Int32) (v2 : Int32) (d : ya_D) : Option Int32 :=
  (f_X12_isSlot v1).bind fun x1 =>
  ya_j0 (
    some (-2)) fun k11 =>
  if x1 = 0 then
    k11
  else
  if v2 = 0 then
    k11
  else
  (ya_rI d 104 4 v1).bind fun x19 =>
  if x19 = (-1) then
    some (-6)
  else
  (ya_rI d 104 4 v1).bind fun x32 =>
  if (x32 - x32 / 3 * 3) = 0 then
    f_X12_asksCrowds_L43 v1 d (
      some (-2)) ya_F 0
  else
  some (-2)
def f_X12_agrees_L3 (v1 : Int32) (v2 : Int32) (v3 : Int32) (v4 : Int32) (d : ya_D) : Nat → Int32 → Option Int32
  | 0, _ => none
  | n + 1, v5 =>
    (ya_rI d 104 4 v1).bind fun x10 =>
    if x10 ≤ v5 then
      some 1
    else
    (f_X12_numberAt v1 v5 d).bind fun x18 =>
    ya_j1 (fun (t0_47 : Int32) =>
      ya_j0 (
        f_X12_agrees_L3 v1 v2 v3 v4 d n (v5 + 3)) fun k78 =>
      if t0_47 = 0 then
        k78
      else
      (f_X12_comeAt v2 v3 v4 d).bind fun x59 =>
      (f_X12_numberAt v1 (v5 + 2) d).bind fun x69 =>
      if ((x59).toInt64) = x69 then
        k78
      else
      some 0) fun k47 =>
    ya_j0 (
      k47 0) fun k46 =>
    if x18 = ((v2).toInt64) then
      (f_X12_numberAt v1 (v5 + 1) d).bind fun x33 =>
      if x33 = ((v3).toInt64) then
        k47 1
      else
      k46
    else
    k46
def f_X12_agrees (v1 : Int32) (v2 : Int32) (v3 : Int32) (v4 : Int32) (d : ya_D) : Option Int32 :=
  f_X12_agrees_L3 v1 v2 v3 v4 d ya_F 0
def f_X12_agree_L27 (v1 : Int32) (v2 : Int32) (v3 : Int32) (d : ya_D) : Nat → Int32 → Int32 → Option Int32
  | 0, _, _ => none
  | n + 1, v5, v6 =>
    if 99 < v6 then
      some v5
    else
    (f_X12_agrees v1 v2 v3 v6 d).bind fun x42 =>
    ya_j1 (fun (t0_53 : Int32) =>
      f_X12_agree_L27 v1 v2 v3 d n (v5 + t0_53) (v6 + 1)) fun k53 =>
    if x42 = 0 then
      k53 0
    else
    k53 1
def f_X12_agree (v1 : Int32) (v2 : Int32) (v3 : Int32) (d : ya_D) : Option Int32 :=
  (f_X12_areSo v2 v3 d).bind fun x5 =>
  (f_X12_asksCrowds v1 x5 d).bind fun x8 =>
  if 0 ≤ x8 then
    f_X12_agree_L27 v1 v2 v3 d ya_F 0 0
  else
  some x8
def f_X12_told__L49 (v1 : Int32) (v2 : Int32) (v3 : Int32) (v4 : Int32) (d : ya_D) (e96 : Int32 → Int32 → Option Int32) : Nat → Int32 → Int32 → Int32 → Option Int32
  | 0, _, _, _ => none
  | n + 1, v6, v7, v8 =>
    if 99 < v8 then
      e96 v6 v7
    else
    (f_X12_agrees v1 v2 v3 v8 d).bind fun x62 =>
    ya_j2 (fun (v6_90 : Int32) (v7_90 : Int32) =>
      f_X12_told__L49 v1 v2 v3 v4 d e96 n v6_90 v7_90 (v8 + 1)) fun k90 =>
    if x62 = 0 then
      k90 v6 v7
    else
    ya_j1 (fun (t0_84 : Int32) =>
      k90 t0_84 v8) fun k84 =>
    if v6 = (-1) then
      k84 v8
    else
    k84 v6
def f_X12_told_ (v1 : Int32) (v2 : Int32) (v3 : Int32) (v4 : Int32) (d : ya_D) : Option Int32 :=
  (f_X12_areSo v2 v3 d).bind fun x5 =>
  ya_j1 (fun (t0_27 : Int32) =>
    (f_X12_asksCrowds v1 t0_27 d).bind fun x27 =>
    if 0 ≤ x27 then
      f_X12_told__L49 v1 v2 v3 v4 d (fun (v6_96 : Int32) (v7_96 : Int32) =>
        if v4 = 0 then
          some v6_96
        else
        some v7_96) ya_F (-1) (-1) 0
    else
    some x27) fun k27 =>
  ya_j0 (
    k27 0) fun k26 =>
  if x5 = 0 then
    k26
  else
  (f_X12_in ((v4).toInt64) 0 1).bind fun x16 =>
  if x16 = 0 then
    k26
  else
  k27 1
def f_X12_odd_L18 (v1 : Int32) (d : ya_D) : Nat → Int32 → Option Int32
  | 0, _ => none
  | n + 1, v3 =>
    (ya_rI d 104 4 v1).bind fun x26 =>
    if x26 ≤ ((3 : Int32) * v3) then
      some (-1)
    else
    (f_X12_numberAt v1 ((3 : Int32) * v3) d).bind fun x35 =>
    (f_X12_numberAt v1 (((3 : Int32) * v3) + 1) d).bind fun x48 =>
    (f_X12_priceOf ((x35).toInt32) ((x48).toInt32) d).bind fun x64 =>
    (f_X12_comeAt ((x35).toInt32) ((x48).toInt32) x64 d).bind fun x67 =>
    (f_X12_numberAt v1 (((3 : Int32) * v3) + 2) d).bind fun x78 =>
    if ((x67).toInt64) = x78 then
      f_X12_odd_L18 v1 d n (v3 + 1)
    else
    some v3
def f_X12_odd (v1 : Int32) (d : ya_D) : Option Int32 :=
  (f_X12_isMarket d).bind fun x3 =>
  (f_X12_asksCrowds v1 x3 d).bind fun x6 =>
  if 0 ≤ x6 then
    f_X12_odd_L18 v1 d ya_F 0
  else
  some x6
def f_X12_passing_L62 (v1 : Int32) (v2 : Int32) (v7 : Int32) (v8 : Int32) (d : ya_D) (e171 : Int32 → Int32 → Int32 → Int32 → Option Int32) : Nat → Int32 → Int32 → Int32 → Int32 → Int32 → Option Int32
  | 0, _, _, _, _, _ => none
  | n + 1, v3, v4, v5, v6, v9 =>
    (ya_rI d 84 468 0).bind fun x69 =>
    if x69 ≤ v9 then
      e171 v3 v4 v5 v6
    else
    (f_X12_keepsOf v1 d).bind fun x79 =>
    if (v8 + x79) < v9 then
      e171 v3 v4 v5 v6
    else
    ya_j1 (fun (t0_102 : Int32) =>
      (f_X12_at v1 v8).bind fun x105 =>
      (ya_rI d 84 468 (t0_102 + x105)).bind fun x109 =>
      ya_j1 (fun (t0_128 : Int32) =>
        (f_X12_at v1 v9).bind fun x131 =>
        (ya_rI d 84 468 (t0_128 + x131)).bind fun x135 =>
        ya_j4 (fun (v3_165 : Int32) (v4_165 : Int32) (v5_165 : Int32) (v6_165 : Int32) =>
          f_X12_passing_L62 v1 v2 v7 v8 d e171 n v3_165 v4_165 v5_165 v6_165 (v9 + 1)) fun k165 =>
        if v3 < (x135 - x109) then
          k165 (x135 - x109) v8 v9 v7
        else
        k165 v3 v4 v5 v6) fun k128 =>
      if v7 = 0 then
        k128 111
      else
      k128 11) fun k102 =>
    if v7 = 0 then
      k102 11
    else
    k102 111
def f_X12_passing_L47 (v1 : Int32) (v2 : Int32) (v7 : Int32) (d : ya_D) (e177 : Int32 → Int32 → Int32 → Int32 → Option Int32) : Nat → Int32 → Int32 → Int32 → Int32 → Int32 → Option Int32
  | 0, _, _, _, _, _ => none
  | n + 1, v3, v4, v5, v6, v8 =>
    (ya_rI d 84 468 0).bind fun x54 =>
    if x54 ≤ v8 then
      e177 v3 v4 v5 v6
    else
    f_X12_passing_L62 v1 v2 v7 v8 d (fun (v3_171 : Int32) (v4_171 : Int32) (v5_171 : Int32) (v6_171 : Int32) =>
      f_X12_passing_L47 v1 v2 v7 d e177 n v3_171 v4_171 v5_171 v6_171 (v8 + 1)) ya_F v3 v4 v5 v6 v8
def f_X12_passing_L38 (v1 : Int32) (v2 : Int32) (d : ya_D) (e183 : Int32 → Int32 → Int32 → Int32 → Option Int32) : Nat → Int32 → Int32 → Int32 → Int32 → Int32 → Option Int32
  | 0, _, _, _, _, _ => none
  | n + 1, v3, v4, v5, v6, v7 =>
    if 2 ≤ v7 then
      e183 v3 v4 v5 v6
    else
    f_X12_passing_L47 v1 v2 v7 d (fun (v3_177 : Int32) (v4_177 : Int32) (v5_177 : Int32) (v6_177 : Int32) =>
      f_X12_passing_L38 v1 v2 d e183 n v3_177 v4_177 v5_177 v6_177 (v7 + 1)) ya_F v3 v4 v5 v6 0
def f_X12_passing (v1 : Int32) (v2 : Int32) (d : ya_D) : Option Int32 :=
  (f_X12_isThing ((v1).toInt64) d).bind fun x3 =>
  ya_j0 (
    some (-2)) fun k21 =>
  if x3 = 0 then
    k21
  else
  (f_X12_in ((v2).toInt64) 0 3).bind fun x15 =>
  if x15 = 0 then
    k21
  else
  f_X12_passing_L38 v1 v2 d (fun (v3_183 : Int32) (v4_183 : Int32) (v5_183 : Int32) (v6_183 : Int32) =>
    if v2 = 0 then
      some v3_183
    else
    if v2 = 1 then
      some v4_183
    else
    if v2 = 2 then
      some v5_183
    else
    some v6_183) ya_F 0 (-1) (-1) (-1) 0
def f_X12_like_L69 (v1 : Int32) (v2 : Int32) (v3 : Int32) (v4 : Int32) (v5 : Int32) : Nat → Int32 → Int32 → ya_D → Option (Int32 × ya_D)
  | 0, _, _, _ => none
  | n + 1, v6, v7, d =>
    (ya_rI d 84 468 0).bind fun x76 =>
    if x76 ≤ v7 then
      some (v6, d)
    else
    (f_X12_priceOf v2 v7 d).bind fun x85 =>
    (f_X12_priceOf v4 v7 d).bind fun x96 =>
    (ya_dv ((v3 * x85) + (v5 * x96)) (v3 + v5)).bind fun x105 =>
    (f_X12_at v1 v7).bind fun x117 =>
    (ya_wI d 84 468 ((11 : Int32) + x117) x105).bind fun d123 =>
    f_X12_like_L69 v1 v2 v3 v4 v5 n (v6 + x105) (v7 + 1) d123
def f_X12_like (v1 : Int32) (v2 : Int32) (v3 : Int32) (v4 : Int32) (v5 : Int32) (d : ya_D) : Option (Int32 × ya_D) :=
  (f_X12_isThing ((v1).toInt64) d).bind fun x3 =>
  ya_j0 (
    some ((-2), d)) fun k60 =>
  if x3 = 0 then
    k60
  else
  (f_X12_isThing ((v2).toInt64) d).bind fun x12 =>
  if x12 = 0 then
    k60
  else
  (f_X12_isThing ((v4).toInt64) d).bind fun x22 =>
  if x22 = 0 then
    k60
  else
  (f_X12_in ((v3).toInt64) 0 9).bind fun x34 =>
  if x34 = 0 then
    k60
  else
  (f_X12_in ((v5).toInt64) 0 9).bind fun x47 =>
  if x47 = 0 then
    k60
  else
  if (v3 + v5) = 0 then
    k60
  else
  f_X12_like_L69 v1 v2 v3 v4 v5 ya_F 0 0 d
def f_X12_queue (v1 : Int32) (v2 : Int32) (d : ya_D) : Option (Int32 × ya_D) :=
  (f_X12_areSo v1 v2 d).bind fun x3 =>
  if x3 = 0 then
    some ((-2), d)
  else
  (f_X12_runs 1 d).bind fun d14 =>
  (f_X12_at v1 v2).bind fun x24 =>
  (ya_rI d14 92 100 x24).bind fun x27 =>
  (f_X12_at v1 v2).bind fun x34 =>
  (ya_rI d14 91 100 x34).bind fun x37 =>
  some (ya_max 0 (x27 - x37), d14)
def f_X12_spoils (v1 : Int32) (v2 : Int32) (d : ya_D) : Option (Int32 × ya_D) :=
  (f_X12_areSo v1 v2 d).bind fun x3 =>
  if x3 = 0 then
    some ((-2), d)
  else
  (f_X12_runs 1 d).bind fun d14 =>
  (f_X12_at v1 v2).bind fun x23 =>
  (ya_rI d14 100 100 x23).bind fun x26 =>
  some (x26, d14)
def f_X12_shape_L41 (v1 : Int32) (v2 : Int32) (d : ya_D) (e172 : Int32 → Int32 → Int32 → Int32 → Option Int32) : Nat → Int32 → Int32 → Int32 → Int32 → Int32 → Int32 → Option Int32
  | 0, _, _, _, _, _, _ => none
  | n + 1, v3, v4, v5, v6, v7, v8 =>
    (ya_rI d 84 468 0).bind fun x48 =>
    if x48 ≤ v8 then
      e172 v3 v4 v5 v7
    else
    (f_X12_priceOf v1 v8 d).bind fun x56 =>
    (f_X12_priceOf v1 v3 d).bind fun x62 =>
    ya_j1 (fun (t0_74 : Int32) =>
      (f_X12_priceOf v1 v8 d).bind fun x79 =>
      (f_X12_priceOf v1 v4 d).bind fun x86 =>
      ya_j1 (fun (t0_99 : Int32) =>
        (f_X12_priceOf v1 v8 d).bind fun x105 =>
        (f_X12_priceOf v1 (v8 - 1) d).bind fun x114 =>
        ya_j1 (fun (t0_125 : Int32) =>
          ya_j1 (fun (t0_139 : Int32) =>
            ya_j1 (fun (t0_155 : Int32) =>
              f_X12_shape_L41 v1 v2 d e172 n t0_74 t0_99 (v5 + t0_139) t0_155 (ya_max v7 t0_155) (v8 + 1)) fun k155 =>
            if t0_125 = 0 then
              k155 1
            else
            k155 (v6 + 1)) fun k139 =>
          if t0_125 = 0 then
            k139 1
          else
          k139 0) fun k125 =>
        if x105 = x114 then
          k125 1
        else
        k125 0) fun k99 =>
      if x86 ≤ x79 then
        k99 v4
      else
      k99 v8) fun k74 =>
    if x56 ≤ x62 then
      k74 v3
    else
    k74 v8
def f_X12_shape (v1 : Int32) (v2 : Int32) (d : ya_D) : Option Int32 :=
  (f_X12_isThing ((v1).toInt64) d).bind fun x3 =>
  ya_j0 (
    some (-2)) fun k21 =>
  if x3 = 0 then
    k21
  else
  (f_X12_in ((v2).toInt64) 0 3).bind fun x15 =>
  if x15 = 0 then
    k21
  else
  f_X12_shape_L41 v1 v2 d (fun (v3_172 : Int32) (v4_172 : Int32) (v5_172 : Int32) (v7_172 : Int32) =>
    if v2 = 0 then
      some v3_172
    else
    if v2 = 1 then
      some v4_172
    else
    if v2 = 2 then
      some v5_172
    else
    some v7_172) ya_F 0 0 0 1 1 1
def f_X12_dearer_L31 (v1 : Int32) (v2 : Int32) (d : ya_D) : Nat → Int32 → Int32 → Option Int32
  | 0, _, _ => none
  | n + 1, v3, v4 =>
    (ya_rI d 84 468 0).bind fun x38 =>
    if x38 ≤ v4 then
      some v3
    else
    (f_X12_priceOf v1 v4 d).bind fun x47 =>
    (f_X12_priceOf v2 v4 d).bind fun x54 =>
    ya_j1 (fun (t0_65 : Int32) =>
      f_X12_dearer_L31 v1 v2 d n (v3 + t0_65) (v4 + 1)) fun k65 =>
    if x47 ≤ x54 then
      k65 0
    else
    k65 1
def f_X12_dearer (v1 : Int32) (v2 : Int32) (d : ya_D) : Option Int32 :=
  (f_X12_isThing ((v1).toInt64) d).bind fun x3 =>
  ya_j0 (
    some (-2)) fun k23 =>
  if x3 = 0 then
    k23
  else
  (f_X12_isThing ((v2).toInt64) d).bind fun x12 =>
  if x12 = 0 then
    k23
  else
  if v1 = v2 then
    k23
  else
  f_X12_dearer_L31 v1 v2 d ya_F 0 0
def f_X12_bestKeeping (v1 : Int32) (v2 : Int32) (d : ya_D) : Option (Int32 × ya_D) :=
  (f_X12_thingOf v1 d).bind fun x4 =>
  (ya_rI d 84 468 ((6 : Int32) + x4)).bind fun x14 =>
  (ya_wI d 84 468 ((6 : Int32) + x4) v2).bind fun d23 =>
  ya_b2 (f_X12_bestBut v1 (-1) d23) fun x27 d27 =>
  (ya_wI d27 84 468 ((6 : Int32) + x4) x14).bind fun d39 =>
  some (x27, d39)
def f_X12_keeping (v1 : Int32) (v2 : Int32) (d : ya_D) : Option (Int32 × ya_D) :=
  (f_X12_isSeller v1 d).bind fun x2 =>
  ya_j0 (
    some ((-2), d)) fun k29 =>
  if x2 = 0 then
    k29
  else
  (f_X12_in ((v2).toInt64) 0 30).bind fun x14 =>
  if x14 = 0 then
    k29
  else
  ya_b2 (f_X12_bestKeeping v1 v2 d) fun x23 d23 =>
  some (x23, d23)
def f_X12_enough_L21 (v1 : Int32) (v2 : Int32) : Nat → Int32 → ya_D → Option (Int32 × ya_D)
  | 0, _, _ => none
  | n + 1, v3, d =>
    ya_b2 (f_X12_bestKeeping v1 v3 d) fun x24 d24 =>
    if v2 ≤ x24 then
      some (v3, d24)
    else
    f_X12_enough_L21 v1 v2 n (v3 + 1) d24
def f_X12_enough (v1 : Int32) (d : ya_D) : Option (Int32 × ya_D) :=
  (f_X12_isSeller v1 d).bind fun x2 =>
  if x2 = 0 then
    some ((-2), d)
  else
  ya_b2 (f_X12_bestKeeping v1 30 d) fun x15 d15 =>
  f_X12_enough_L21 v1 x15 ya_F 0 d15
def f_X12_clears_L54 (v1 : Int32) (v2 : Int32) (v3 : Int32) (v4 : Int32) (v5 : Int32) (e98 : Int32 → ya_D → Option (Int32 × ya_D)) : Nat → Int32 → Int32 → ya_D → Option (Int32 × ya_D)
  | 0, _, _, _ => none
  | n + 1, v6, v7, d =>
    if v7 < 0 then
      e98 v6 d
    else
    if v6 = (-1) then
      (ya_wI d 84 468 v4 v7).bind fun d73 =>
      (f_X12_askedOf v1 v2 d73).bind fun x77 =>
      ya_j1 (fun (t0_90 : Int32) =>
        f_X12_clears_L54 v1 v2 v3 v4 v5 e98 n t0_90 (v7 + (-1)) d73) fun k90 =>
      if x77 < v3 then
        k90 (-1)
      else
      k90 v7
    else
    e98 v6 d
def f_X12_clears (v1 : Int32) (v2 : Int32) (d : ya_D) : Option (Int32 × ya_D) :=
  (f_X12_areSo v1 v2 d).bind fun x3 =>
  if x3 = 0 then
    some ((-2), d)
  else
  (f_X12_runs 1 d).bind fun d14 =>
  (f_X12_at v1 v2).bind fun x23 =>
  (ya_rI d14 91 100 x23).bind fun x26 =>
  (f_X12_at v1 v2).bind fun x32 =>
  (ya_rI d14 84 468 ((11 : Int32) + x32)).bind fun x44 =>
  f_X12_clears_L54 v1 v2 x26 ((11 : Int32) + x32) x44 (fun (v6_98 : Int32) (d_98 : ya_D) =>
    (ya_wI d_98 84 468 ((11 : Int32) + x32) x44).bind fun d106 =>
    some (v6_98, d106)) ya_F (-1) 99 d14
def f_X12_poor_L59 (v1 : Int32) (v2 : Int32) (v3 : Int32) (v4 : Int32) (e109 : Int32 → ya_D → Option (Int32 × ya_D)) : Nat → Int32 → Int32 → ya_D → Option (Int32 × ya_D)
  | 0, _, _, _ => none
  | n + 1, v5, v6, d =>
    if 99 < v6 then
      e109 v5 d
    else
    if v5 = (-1) then
      (ya_wI d 84 468 v2 v6).bind fun d79 =>
      (f_X12_runs 1 d79).bind fun d82 =>
      (ya_rI d82 99 7 v1).bind fun x90 =>
      ya_j1 (fun (t0_101 : Int32) =>
        f_X12_poor_L59 v1 v2 v3 v4 e109 n t0_101 (v6 + 1) d82) fun k101 =>
      if x90 = v3 then
        k101 v6
      else
      k101 (-1)
    else
    e109 v5 d
def f_X12_poor (v1 : Int32) (d : ya_D) : Option (Int32 × ya_D) :=
  (f_X12_isBuyer v1 d).bind fun x2 =>
  if x2 = 0 then
    some ((-2), d)
  else
  (f_X12_of v1 1 d).bind fun x25 =>
  (f_X12_of v1 4 d).bind fun x31 =>
  (f_X12_of v1 3 d).bind fun x37 =>
  (ya_rI d 84 468 (((426 : Int32) + ((6 : Int32) * v1)) + 2)).bind fun x50 =>
  f_X12_poor_L59 v1 (((426 : Int32) + ((6 : Int32) * v1)) + 2) (x25 * ((x31 - x37) + 1)) x50 (fun (v5_109 : Int32) (d_109 : ya_D) =>
    (ya_wI d_109 84 468 (((426 : Int32) + ((6 : Int32) * v1)) + 2) x50).bind fun d116 =>
    some (v5_109, d116)) ya_F (-1) 0 d
def f_X12_villageOn_L5 (v1 : Int32) (v2 : Int32) (d : ya_D) : Nat → Int32 → Int32 → Option Int32
  | 0, _, _ => none
  | n + 1, v3, v4 =>
    (ya_rI d 84 468 2).bind fun x12 =>
    if x12 ≤ v4 then
      some v3
    else
    ya_j1 (fun (t0_42 : Int32) =>
      f_X12_villageOn_L5 v1 v2 d n (v3 + t0_42) (v4 + 1)) fun k42 =>
    if ((v1 >>> (v4 &&& 31)) &&& 1) = 1 then
      (f_X12_at v4 v2).bind fun x34 =>
      (ya_rI d 94 100 x34).bind fun x37 =>
      k42 x37
    else
    k42 0
def f_X12_villageOn (v1 : Int32) (v2 : Int32) (d : ya_D) : Option Int32 :=
  f_X12_villageOn_L5 v1 v2 d ya_F 0 0
def f_X12_village_L55 (v1 : Int32) (v2 : Int32) (d : ya_D) (e107 : Int32 → Int32 → Option (Int32 × ya_D)) : Nat → Int32 → Int32 → Int32 → Option (Int32 × ya_D)
  | 0, _, _, _ => none
  | n + 1, v3, v4, v5 =>
    (ya_rI d 84 468 0).bind fun x62 =>
    if x62 ≤ v5 then
      e107 v3 v4
    else
    (f_X12_villageOn v1 v5 d).bind fun x70 =>
    (f_X12_villageOn v1 v3 d).bind fun x76 =>
    ya_j1 (fun (t0_88 : Int32) =>
      (f_X12_villageOn v1 v5 d).bind fun x95 =>
      f_X12_village_L55 v1 v2 d e107 n t0_88 (v4 + x95) (v5 + 1)) fun k88 =>
    if x70 ≤ x76 then
      k88 v3
    else
    k88 v5
def f_X12_village (v1 : Int32) (v2 : Int32) (d : ya_D) : Option (Int32 × ya_D) :=
  (f_X12_isMarket d).bind fun x1 =>
  ya_j0 (
    some ((-2), d)) fun k39 =>
  if x1 = 0 then
    k39
  else
  (ya_rI d 84 468 2).bind fun x16 =>
  (f_X12_in ((v1).toInt64) 0 ((((1 : Int32) <<< (x16 &&& 31)) - 1).toInt64)).bind fun x21 =>
  if x21 = 0 then
    k39
  else
  (f_X12_in ((v2).toInt64) 0 2).bind fun x33 =>
  if x33 = 0 then
    k39
  else
  (f_X12_runs 1 d).bind fun d44 =>
  f_X12_village_L55 v1 v2 d44 (fun (v3_107 : Int32) (v4_107 : Int32) =>
    if v2 = 0 then
      if v4_107 = 0 then
        some ((-1), d44)
      else
      some (v3_107, d44)
    else
    if v2 = 1 then
      (f_X12_villageOn v1 v3_107 d44).bind fun x132 =>
      some (x132, d44)
    else
    some (v4_107, d44)) ya_F 0 0 0
def f_X12_factorial_L4 (v0 : Int32) : Nat → Int32 → Int32 → Option Int32
  | 0, _, _ => none
  | n + 1, v1, v2 =>
    if v0 < v2 then
      some v1
    else
    f_X12_factorial_L4 v0 n (v1 * v2) (v2 + 1)
def f_X12_factorial (v0 : Int32) : Option Int32 :=
  f_X12_factorial_L4 v0 ya_F 1 2
def f_X12_orders_L26 (v1 : Int32) (v2 : Int32) (v3 : Int32) (v4 : Int32) (v5 : Int32) (d : ya_D) (e94 : Int32 → Int32 → Int32 → Option Int32) : Nat → Int32 → Int32 → Int32 → Int32 → Option Int32
  | 0, _, _, _, _ => none
  | n + 1, v6, v7, v8, v9 =>
    if v2 ≤ v9 then
      e94 v6 v7 v8
    else
    ya_j3 (fun (v6_88 : Int32) (v7_88 : Int32) (v8_88 : Int32) =>
      f_X12_orders_L26 v1 v2 v3 v4 v5 d e94 n v6_88 v7_88 v8_88 (v9 + 1)) fun k88 =>
    if ((v5 >>> (v9 &&& 31)) &&& 1) = 0 then
      k88 v6 v7 v8
    else
    ya_j1 (fun (t0_66 : Int32) =>
      (ya_rI d 101 7 v9).bind fun x80 =>
      (f_X12_of x80 1 d).bind fun x82 =>
      k88 (v6 + 1) (v7 + x82) t0_66) fun k66 =>
    ya_j0 (
      k66 0) fun k65 =>
    if v8 = 0 then
      k65
    else
    (ya_rI d 101 7 v9).bind fun x56 =>
    if x56 = v1 then
      k65
    else
    k66 1
def f_X12_orders_L6 (v1 : Int32) (v2 : Int32) (v3 : Int32) (d : ya_D) : Nat → Int32 → Int32 → Option Int32
  | 0, _, _ => none
  | n + 1, v4, v5 =>
    if ((1 : Int32) <<< (v2 &&& 31)) ≤ v5 then
      some v4
    else
    f_X12_orders_L26 v1 v2 v3 v4 v5 d (fun (v6_94 : Int32) (v7_94 : Int32) (v8_94 : Int32) =>
      ya_j1 (fun (v4_132 : Int32) =>
        f_X12_orders_L6 v1 v2 v3 d n v4_132 (v5 + 1)) fun k132 =>
      if v8_94 = 0 then
        k132 v4
      else
      (f_X12_of v1 1 d).bind fun x104 =>
      if v3 < (v7_94 + x104) then
        k132 v4
      else
      (f_X12_factorial v6_94).bind fun x116 =>
      (f_X12_factorial ((v2 - 1) - v6_94)).bind fun x125 =>
      k132 (v4 + (x116 * x125))) ya_F 0 0 1 0
def f_X12_orders (v1 : Int32) (v2 : Int32) (v3 : Int32) (d : ya_D) : Option Int32 :=
  f_X12_orders_L6 v1 v2 v3 d ya_F 0 0
def f_X12_divisor_L4  : Nat → Int32 → Int32 → Option Int32
  | 0, _, _ => none
  | n + 1, v2, v3 =>
    if v3 = 0 then
      some v2
    else
    (ya_rm v2 v3).bind fun x10 =>
    f_X12_divisor_L4  n v3 x10
def f_X12_divisor (v0 : Int32) (v1 : Int32) : Option Int32 :=
  f_X12_divisor_L4  ya_F v0 v1
def f_X12_chance (v1 : Int32) (v2 : Int32) (v3 : Int32) (d : ya_D) : Option (Int32 × ya_D) :=
  (f_X12_isBuyer v1 d).bind fun x2 =>
  ya_j0 (
    some ((-2), d)) fun k27 =>
  if x2 = 0 then
    k27
  else
  (f_X12_isDay ((v2).toInt64) d).bind fun x11 =>
  if x11 = 0 then
    k27
  else
  (f_X12_in ((v3).toInt64) 0 1).bind fun x21 =>
  if x21 = 0 then
    k27
  else
  (f_X12_of v1 0 d).bind fun x33 =>
  (f_X12_wantsOn v1 x33 v2 d).bind fun x43 =>
  if x43 = 0 then
    some (v3, d)
  else
  (f_X12_runs 1 d).bind fun d53 =>
  (f_X12_at x33 v2).bind fun x63 =>
  (ya_rI d53 91 100 x63).bind fun x66 =>
  ya_b2 (f_X12_standIn x33 v2 0 d53) fun x74 d74 =>
  (f_X12_askedOf x33 v2 d74).bind fun x83 =>
  ya_j1 (fun (t0_108 : Int32) =>
    (f_X12_factorial x74).bind fun x114 =>
    (f_X12_divisor t0_108 x114).bind fun x117 =>
    ya_j1 (fun (t0_136 : Int32) =>
      (ya_dv t0_136 x117).bind fun x138 =>
      some (x138, d74)) fun k136 =>
    if v3 = 0 then
      k136 t0_108
    else
    (f_X12_factorial x74).bind fun x133 =>
    k136 x133) fun k108 =>
  if x66 < x83 then
    (f_X12_orders v1 x74 x66 d74).bind fun x105 =>
    k108 x105
  else
  (f_X12_factorial x74).bind fun x93 =>
  k108 x93
def f_X12_isSeed (v0 : Int32) : Option Int32 :=
  (f_X12_in ((v0).toInt64) 0 2000000000).bind fun x6 =>
  (ya_zz x6).bind fun z9 =>
  some z9
def f_X12_lots (v1 : Int32) (v2 : Int32) (d : ya_D) : Option (Int32 × ya_D) :=
  (f_X12_isSeed v1).bind fun x1 =>
  ya_j0 (
    some ((-2), d)) fun k15 =>
  if x1 = 0 then
    k15
  else
  (f_X12_isBuyer v2 d).bind fun x9 =>
  if x9 = 0 then
    k15
  else
  (f_X12_runs ((v1).toInt64) d).bind fun d21 =>
  (ya_rI d21 99 7 v2).bind fun x29 =>
  some (x29, d21)
def f_X12_years_L36 (v1 : Int32) (v2 : Int32) (v3 : Int32) : Nat → Int32 → Int32 → ya_D → Option (Int32 × ya_D)
  | 0, _, _, _ => none
  | n + 1, v4, v5, d =>
    if v2 ≤ v5 then
      some (v4, d)
    else
    (f_X12_runs (((v1).toInt64) + ((v5).toInt64)) d).bind fun d49 =>
    (ya_rI d49 99 7 v3).bind fun x59 =>
    f_X12_years_L36 v1 v2 v3 n (v4 + x59) (v5 + 1) d49
def f_X12_years (v1 : Int32) (v2 : Int32) (v3 : Int32) (d : ya_D) : Option (Int32 × ya_D) :=
  (f_X12_isSeed v1).bind fun x1 =>
  ya_j0 (
    some ((-2), d)) fun k27 =>
  if x1 = 0 then
    k27
  else
  (f_X12_in ((v2).toInt64) 1 20).bind fun x13 =>
  if x13 = 0 then
    k27
  else
  (f_X12_isBuyer v3 d).bind fun x21 =>
  if x21 = 0 then
    k27
  else
  f_X12_years_L36 v1 v2 v3 ya_F 0 0 d
def f_X12_count_L106 (d : ya_D) : Nat → Int32 → Int32 → Option Int32
  | 0, _, _ => none
  | n + 1, v2, v3 =>
    if 4 ≤ v3 then
      some v2
    else
    (ya_rI d 104 4 v3).bind fun x117 =>
    ya_j1 (fun (t0_127 : Int32) =>
      f_X12_count_L106 d n (v2 + t0_127) (v3 + 1)) fun k127 =>
    if x117 = (-1) then
      k127 0
    else
    k127 1
def f_X12_count (v1 : Int32) (d : ya_D) : Option Int32 :=
  if v1 = 0 then
    (ya_rI d 84 468 0).bind fun x57 =>
    some x57
  else
  if v1 = 1 then
    (ya_rI d 84 468 1).bind fun x64 =>
    some x64
  else
  if v1 = 2 then
    (ya_rI d 84 468 2).bind fun x71 =>
    some x71
  else
  if v1 = 3 then
    (ya_rI d 84 468 3).bind fun x78 =>
    some x78
  else
  if v1 = 4 then
    (ya_rI d 84 468 4).bind fun x85 =>
    some x85
  else
  if v1 = 5 then
    some (d.1 83 5)
  else
  if v1 = 6 then
    (ya_rI d 84 468 5).bind fun x97 =>
    some x97
  else
  if v1 = 7 then
    (f_X12_markedMany d).bind fun x100 =>
    some x100
  else
  if v1 = 8 then
    f_X12_count_L106 d ya_F 0 0
  else
  some (-1)
def f_X12_cut (v0 : Int64) (v2 : Int32) : Option Int64 :=
  some ((v0 <<< ((((64 : Int32) - ((8 : Int32) <<< (v2 &&& 31)))).toInt64 &&& 63)) >>> ((((64 : Int32) - ((8 : Int32) <<< (v2 &&& 31)))).toInt64 &&& 63))
def f_X12_row_L52 (v1 : Int32) : Nat → Int32 → ya_D → Option (Int32 × ya_D)
  | 0, _, _ => none
  | n + 1, v4, d =>
    if 60 ≤ v4 then
      some (0, d)
    else
    (ya_wL d 106 240 (((60 : Int32) * v1) + v4) 0).bind fun d71 =>
    f_X12_row_L52 v1 n (v4 + 1) d71
def f_X12_row (v1 : Int32) (v2 : Int32) (v3 : Int32) (d : ya_D) : Option (Int32 × ya_D) :=
  (f_X12_isSlot v1).bind fun x1 =>
  ya_j0 (
    some ((-2), d)) fun k25 =>
  if x1 = 0 then
    k25
  else
  (f_X12_in ((v2).toInt64) 0 3).bind fun x13 =>
  if x13 = 0 then
    k25
  else
  if v3 ≤ 60 then
    if 0 ≤ v3 then
      (ya_wI d 104 4 v1 v3).bind fun d41 =>
      (ya_wI d41 105 4 v1 v2).bind fun d48 =>
      f_X12_row_L52 v1 ya_F 0 d48
    else
    some ((-3), d)
  else
  k25
def f_X12_write (v1 : Int32) (v2 : Int32) (v3 : Int64) (d : ya_D) : Option (Int32 × ya_D) :=
  (f_X12_isSlot v1).bind fun x1 =>
  if x1 = 0 then
    some ((-2), d)
  else
  (ya_rI d 104 4 v1).bind fun x15 =>
  if x15 = (-1) then
    some ((-6), d)
  else
  (ya_rI d 104 4 v1).bind fun x31 =>
  (f_X12_in ((v2).toInt64) 0 ((x31 - 1).toInt64)).bind fun x35 =>
  if x35 = 0 then
    some ((-7), d)
  else
  (ya_rI d 105 4 v1).bind fun x60 =>
  (f_X12_cut v3 x60).bind fun x61 =>
  (ya_wL d 106 240 (((60 : Int32) * v1) + v2) x61).bind fun d64 =>
  some (0, d64)
def f_X12_paste_L113 (v1 : Int32) (v2 : Int32) (v3 : Int32) (v4 : Int32) (v5 : Int32) (e147 : ya_D → Option (Int32 × ya_D)) : Nat → Int32 → ya_D → Option (Int32 × ya_D)
  | 0, _, _ => none
  | n + 1, v6, d =>
    if v5 ≤ v6 then
      e147 d
    else
    (ya_rL d 106 240 ((((60 : Int32) * v1) + v2) + v6)).bind fun x139 =>
    (ya_wL d 107 60 v6 x139).bind fun d140 =>
    f_X12_paste_L113 v1 v2 v3 v4 v5 e147 n (v6 + 1) d140
def f_X12_paste_L150 (v3 : Int32) (v4 : Int32) (v5 : Int32) : Nat → Int32 → ya_D → Option (Int32 × ya_D)
  | 0, _, _ => none
  | n + 1, v6, d =>
    if v5 ≤ v6 then
      some (0, d)
    else
    (ya_rL d 107 60 v6).bind fun x177 =>
    (ya_wL d 106 240 ((((60 : Int32) * v3) + v4) + v6) x177).bind fun d178 =>
    f_X12_paste_L150 v3 v4 v5 n (v6 + 1) d178
def f_X12_paste (v1 : Int32) (v2 : Int32) (v3 : Int32) (v4 : Int32) (v5 : Int32) (d : ya_D) : Option (Int32 × ya_D) :=
  (f_X12_isSlot v1).bind fun x1 =>
  ya_j0 (
    some ((-2), d)) fun k14 =>
  if x1 = 0 then
    k14
  else
  (f_X12_isSlot v3).bind fun x8 =>
  if x8 = 0 then
    k14
  else
  (ya_rI d 104 4 v1).bind fun x22 =>
  ya_j0 (
    some ((-6), d)) fun k37 =>
  if x22 = (-1) then
    k37
  else
  (ya_rI d 104 4 v3).bind fun x32 =>
  if x32 = (-1) then
    k37
  else
  (ya_rI d 105 4 v1).bind fun x45 =>
  (ya_rI d 105 4 v3).bind fun x51 =>
  if x45 = x51 then
    ya_j0 (
      some ((-7), d)) fun k107 =>
    if v2 < 0 then
      k107
    else
    if v4 < 0 then
      k107
    else
    if v5 < 0 then
      k107
    else
    (ya_rI d 104 4 v1).bind fun x83 =>
    if ((x83).toInt64) < (((v2).toInt64) + ((v5).toInt64)) then
      k107
    else
    (ya_rI d 104 4 v3).bind fun x101 =>
    if (((v4).toInt64) + ((v5).toInt64)) ≤ ((x101).toInt64) then
      f_X12_paste_L113 v1 v2 v3 v4 v5 (fun (d_147 : ya_D) =>
        f_X12_paste_L150 v3 v4 v5 ya_F 0 d_147) ya_F 0 d
    else
    k107
  else
  some ((-8), d)
