def f_law_c0 {γ : Type} (sx : Nat × Nat × (Nat → Int32)) (G : ya_G) (v3 : Int32) (d : ya_D) (kj : ya_D → Option γ) : Option γ :=
  (ya_sr sx (v3 + 1)).bind fun x261 =>
  (ya_sr sx (v3 + 2)).bind fun x266 =>
  (ya_sr sx (v3 + 3)).bind fun x271 =>
  (ya_sr sx (v3 + 4)).bind fun x276 =>
  (ya_sr sx (v3 + 5)).bind fun x281 =>
  ya_b2 (f_X11_feed x261 x266 x271 x276 x281 d) fun x282 d282 =>
  (ya_sr sx (v3 + 1)).bind fun x290 =>
  (ya_sr sx (v3 + 2)).bind fun x295 =>
  (ya_sr sx (v3 + 3)).bind fun x300 =>
  (ya_sr sx (v3 + 4)).bind fun x305 =>
  (ya_sr sx (v3 + 5)).bind fun x310 =>
  ya_b2 (f_X12_feed x290 x295 x300 x305 x310 d282) fun x311 d311 =>
  if x282 = x311 then
    kj d311
  else
  none
def f_law_c1 {γ : Type} (sx : Nat × Nat × (Nat → Int32)) (G : ya_G) (v3 : Int32) (d : ya_D) (kj : ya_D → Option γ) : Option γ :=
  (ya_sr sx (v3 + 1)).bind fun x324 =>
  ya_b2 (f_X11_end x324 d) fun x325 d325 =>
  (ya_sr sx (v3 + 1)).bind fun x333 =>
  ya_b2 (f_X12_end x333 d325) fun x334 d334 =>
  if x325 = x334 then
    kj d334
  else
  none
def f_law_c2 {γ : Type} (sx : Nat × Nat × (Nat → Int32)) (G : ya_G) (v3 : Int32) (d : ya_D) (kj : ya_D → Option γ) : Option γ :=
  ya_b2 (f_X11_market d) fun x343 d343 =>
  ya_b2 (f_X12_market d343) fun x347 d347 =>
  if x343 = x347 then
    kj d347
  else
  none
def f_law_c3 {γ : Type} (sx : Nat × Nat × (Nat → Int32)) (G : ya_G) (v3 : Int32) (d : ya_D) (kj : ya_D → Option γ) : Option γ :=
  (ya_sr sx (v3 + 1)).bind fun x360 =>
  (f_X11_fault x360 d).bind fun x361 =>
  (ya_sr sx (v3 + 1)).bind fun x369 =>
  (f_X12_fault x369 d).bind fun x370 =>
  if x361 = x370 then
    kj d
  else
  none
def f_law_c4 {γ : Type} (sx : Nat × Nat × (Nat → Int32)) (G : ya_G) (v3 : Int32) (d : ya_D) (kj : ya_D → Option γ) : Option γ :=
  (ya_sr sx (v3 + 1)).bind fun x383 =>
  (ya_sr sx (v3 + 2)).bind fun x388 =>
  (f_X11_price x383 x388 d).bind fun x389 =>
  (ya_sr sx (v3 + 1)).bind fun x397 =>
  (ya_sr sx (v3 + 2)).bind fun x402 =>
  (f_X12_price x397 x402 d).bind fun x403 =>
  if x389 = x403 then
    kj d
  else
  none
def f_law_c5 {γ : Type} (sx : Nat × Nat × (Nat → Int32)) (G : ya_G) (v3 : Int32) (d : ya_D) (kj : ya_D → Option γ) : Option γ :=
  (ya_sr sx (v3 + 1)).bind fun x416 =>
  (ya_sr sx (v3 + 2)).bind fun x421 =>
  (f_X11_old x416 x421 d).bind fun x422 =>
  (ya_sr sx (v3 + 1)).bind fun x430 =>
  (ya_sr sx (v3 + 2)).bind fun x435 =>
  (f_X12_old x430 x435 d).bind fun x436 =>
  if x422 = x436 then
    kj d
  else
  none
def f_law_c6 {γ : Type} (sx : Nat × Nat × (Nat → Int32)) (G : ya_G) (v3 : Int32) (d : ya_D) (kj : ya_D → Option γ) : Option γ :=
  (ya_sr sx (v3 + 1)).bind fun x449 =>
  (ya_sr sx (v3 + 2)).bind fun x454 =>
  ya_b2 (f_X11_offered x449 x454 d) fun x455 d455 =>
  (ya_sr sx (v3 + 1)).bind fun x463 =>
  (ya_sr sx (v3 + 2)).bind fun x468 =>
  ya_b2 (f_X12_offered x463 x468 d455) fun x469 d469 =>
  if x455 = x469 then
    kj d469
  else
  none
def f_law_c7 {γ : Type} (sx : Nat × Nat × (Nat → Int32)) (G : ya_G) (v3 : Int32) (d : ya_D) (kj : ya_D → Option γ) : Option γ :=
  (ya_sr sx (v3 + 1)).bind fun x482 =>
  (ya_sr sx (v3 + 2)).bind fun x487 =>
  ya_b2 (f_X11_asked x482 x487 d) fun x488 d488 =>
  (ya_sr sx (v3 + 1)).bind fun x496 =>
  (ya_sr sx (v3 + 2)).bind fun x501 =>
  (f_X12_asked x496 x501 d488).bind fun x502 =>
  if x488 = x502 then
    kj d488
  else
  none
def f_law_c8 {γ : Type} (sx : Nat × Nat × (Nat → Int32)) (G : ya_G) (v3 : Int32) (d : ya_D) (kj : ya_D → Option γ) : Option γ :=
  (ya_sr sx (v3 + 1)).bind fun x515 =>
  (ya_sr sx (v3 + 2)).bind fun x520 =>
  ya_b2 (f_X11_sold x515 x520 d) fun x521 d521 =>
  (ya_sr sx (v3 + 1)).bind fun x529 =>
  (ya_sr sx (v3 + 2)).bind fun x534 =>
  ya_b2 (f_X12_sold x529 x534 d521) fun x535 d535 =>
  if x521 = x535 then
    kj d535
  else
  none
def f_law_c9 {γ : Type} (sx : Nat × Nat × (Nat → Int32)) (G : ya_G) (v3 : Int32) (d : ya_D) (kj : ya_D → Option γ) : Option γ :=
  (ya_sr sx (v3 + 1)).bind fun x548 =>
  (ya_sr sx (v3 + 2)).bind fun x553 =>
  ya_b2 (f_X11_seller x548 x553 d) fun x554 d554 =>
  (ya_sr sx (v3 + 1)).bind fun x562 =>
  (ya_sr sx (v3 + 2)).bind fun x567 =>
  ya_b2 (f_X12_seller x562 x567 d554) fun x568 d568 =>
  if x554 = x568 then
    kj d568
  else
  none
def f_law_c10 {γ : Type} (sx : Nat × Nat × (Nat → Int32)) (G : ya_G) (v3 : Int32) (d : ya_D) (kj : ya_D → Option γ) : Option γ :=
  (ya_sr sx (v3 + 1)).bind fun x581 =>
  (ya_sr sx (v3 + 2)).bind fun x586 =>
  ya_b2 (f_X11_gets x581 x586 d) fun x587 d587 =>
  (ya_sr sx (v3 + 1)).bind fun x595 =>
  (ya_sr sx (v3 + 2)).bind fun x600 =>
  ya_b2 (f_X12_gets x595 x600 d587) fun x601 d601 =>
  if x587 = x601 then
    kj d601
  else
  none
def f_law_c11 {γ : Type} (sx : Nat × Nat × (Nat → Int32)) (G : ya_G) (v3 : Int32) (d : ya_D) (kj : ya_D → Option γ) : Option γ :=
  (ya_sr sx (v3 + 1)).bind fun x614 =>
  (ya_sr sx (v3 + 2)).bind fun x619 =>
  ya_b2 (f_X11_stock x614 x619 d) fun x620 d620 =>
  (ya_sr sx (v3 + 1)).bind fun x628 =>
  (ya_sr sx (v3 + 2)).bind fun x633 =>
  ya_b2 (f_X12_stock x628 x633 d620) fun x634 d634 =>
  if x620 = x634 then
    kj d634
  else
  none
def f_law_c12 {γ : Type} (sx : Nat × Nat × (Nat → Int32)) (G : ya_G) (v3 : Int32) (d : ya_D) (kj : ya_D → Option γ) : Option γ :=
  (ya_sr sx (v3 + 1)).bind fun x647 =>
  (ya_sr sx (v3 + 2)).bind fun x652 =>
  ya_b2 (f_X11_buyer x647 x652 d) fun x653 d653 =>
  (ya_sr sx (v3 + 1)).bind fun x661 =>
  (ya_sr sx (v3 + 2)).bind fun x666 =>
  ya_b2 (f_X12_buyer x661 x666 d653) fun x667 d667 =>
  if x653 = x667 then
    kj d667
  else
  none
def f_law_c13 {γ : Type} (sx : Nat × Nat × (Nat → Int32)) (G : ya_G) (v3 : Int32) (d : ya_D) (kj : ya_D → Option γ) : Option γ :=
  (ya_sr sx (v3 + 1)).bind fun x680 =>
  ya_b2 (f_X11_rich x680 d) fun x681 d681 =>
  (ya_sr sx (v3 + 1)).bind fun x689 =>
  ya_b2 (f_X12_rich x689 d681) fun x690 d690 =>
  if x681 = x690 then
    kj d690
  else
  none
def f_law_c14 {γ : Type} (sx : Nat × Nat × (Nat → Int32)) (G : ya_G) (v3 : Int32) (d : ya_D) (kj : ya_D → Option γ) : Option γ :=
  (ya_sr sx (v3 + 1)).bind fun x703 =>
  ya_b2 (f_X11_best x703 d) fun x704 d704 =>
  (ya_sr sx (v3 + 1)).bind fun x712 =>
  ya_b2 (f_X12_best x712 d704) fun x713 d713 =>
  if x704 = x713 then
    kj d713
  else
  none
def f_law_c15 {γ : Type} (sx : Nat × Nat × (Nat → Int32)) (G : ya_G) (v3 : Int32) (d : ya_D) (kj : ya_D → Option γ) : Option γ :=
  (ya_sr sx (v3 + 1)).bind fun x726 =>
  (ya_sr sx (v3 + 2)).bind fun x731 =>
  ya_b2 (f_X11_worth x726 x731 d) fun x732 d732 =>
  (ya_sr sx (v3 + 1)).bind fun x740 =>
  (ya_sr sx (v3 + 2)).bind fun x745 =>
  ya_b2 (f_X12_worth x740 x745 d732) fun x746 d746 =>
  if x732 = x746 then
    kj d746
  else
  none
def f_law_c16 {γ : Type} (sx : Nat × Nat × (Nat → Int32)) (G : ya_G) (v3 : Int32) (d : ya_D) (kj : ya_D → Option γ) : Option γ :=
  (ya_sr sx (v3 + 1)).bind fun x759 =>
  ya_b2 (f_X11_thursday x759 d) fun x760 d760 =>
  (ya_sr sx (v3 + 1)).bind fun x768 =>
  ya_b2 (f_X12_thursday x768 d760) fun x769 d769 =>
  if x760 = x769 then
    kj d769
  else
  none
def f_law_c17 {γ : Type} (sx : Nat × Nat × (Nat → Int32)) (G : ya_G) (v3 : Int32) (d : ya_D) (kj : ya_D → Option γ) : Option γ :=
  (ya_sr sx (v3 + 1)).bind fun x782 =>
  ya_b2 (f_X11_asks x782 d) fun x783 d783 =>
  (ya_sr sx (v3 + 1)).bind fun x791 =>
  ya_b2 (f_X12_asks x791 d783) fun x792 d792 =>
  if x783 = x792 then
    kj d792
  else
  none
def f_law_c18 {γ : Type} (sx : Nat × Nat × (Nat → Int32)) (G : ya_G) (v3 : Int32) (d : ya_D) (kj : ya_D → Option γ) : Option γ :=
  (ya_sr sx (v3 + 1)).bind fun x805 =>
  (ya_sr sx (v3 + 2)).bind fun x810 =>
  ya_b2 (f_X11_hold x805 x810 d) fun x811 d811 =>
  (ya_sr sx (v3 + 1)).bind fun x819 =>
  (ya_sr sx (v3 + 2)).bind fun x824 =>
  ya_b2 (f_X12_hold x819 x824 d811) fun x825 d825 =>
  if x811 = x825 then
    kj d825
  else
  none
def f_law_c19 {γ : Type} (sx : Nat × Nat × (Nat → Int32)) (G : ya_G) (v3 : Int32) (d : ya_D) (kj : ya_D → Option γ) : Option γ :=
  (ya_sr sx (v3 + 1)).bind fun x838 =>
  ya_b2 (f_X11_cheapest x838 d) fun x839 d839 =>
  (ya_sr sx (v3 + 1)).bind fun x847 =>
  (f_X12_cheapest x847 d839).bind fun x848 =>
  if x839 = x848 then
    kj d839
  else
  none
def f_law_c20 {γ : Type} (sx : Nat × Nat × (Nat → Int32)) (G : ya_G) (v3 : Int32) (d : ya_D) (kj : ya_D → Option γ) : Option γ :=
  (ya_sr sx (v3 + 1)).bind fun x861 =>
  (ya_sr sx (v3 + 2)).bind fun x866 =>
  ya_b2 (f_X11_buys x861 x866 d) fun x867 d867 =>
  (ya_sr sx (v3 + 1)).bind fun x875 =>
  (ya_sr sx (v3 + 2)).bind fun x880 =>
  (f_X12_buys x875 x880 d867).bind fun x881 =>
  if x867 = x881 then
    kj d867
  else
  none
def f_law_c21 {γ : Type} (sx : Nat × Nat × (Nat → Int32)) (G : ya_G) (v3 : Int32) (d : ya_D) (kj : ya_D → Option γ) : Option γ :=
  (ya_sr sx (v3 + 1)).bind fun x894 =>
  ya_b2 (f_X11_crowd x894 d) fun x895 d895 =>
  (ya_sr sx (v3 + 1)).bind fun x903 =>
  (f_X12_crowd x903 d895).bind fun x904 =>
  if x895 = x904 then
    kj d895
  else
  none
def f_law_c22 {γ : Type} (sx : Nat × Nat × (Nat → Int32)) (G : ya_G) (v3 : Int32) (d : ya_D) (kj : ya_D → Option γ) : Option γ :=
  (ya_sr sx (v3 + 1)).bind fun x917 =>
  (ya_sr sx (v3 + 2)).bind fun x922 =>
  (ya_sr sx (v3 + 3)).bind fun x927 =>
  ya_b2 (f_X11_mark x917 x922 x927 d) fun x928 d928 =>
  (ya_sr sx (v3 + 1)).bind fun x936 =>
  (ya_sr sx (v3 + 2)).bind fun x941 =>
  (ya_sr sx (v3 + 3)).bind fun x946 =>
  ya_b2 (f_X12_mark x936 x941 x946 d928) fun x947 d947 =>
  if x928 = x947 then
    kj d947
  else
  none
def f_law_c23 {γ : Type} (sx : Nat × Nat × (Nat → Int32)) (G : ya_G) (v3 : Int32) (d : ya_D) (kj : ya_D → Option γ) : Option γ :=
  ya_b2 (f_X11_turn d) fun x956 d956 =>
  ya_b2 (f_X12_turn d956) fun x960 d960 =>
  if x956 = x960 then
    kj d960
  else
  none
def f_law_c24 {γ : Type} (sx : Nat × Nat × (Nat → Int32)) (G : ya_G) (v3 : Int32) (d : ya_D) (kj : ya_D → Option γ) : Option γ :=
  (ya_sr sx (v3 + 1)).bind fun x973 =>
  (ya_sr sx (v3 + 2)).bind fun x978 =>
  (ya_sr sx (v3 + 3)).bind fun x983 =>
  ya_b2 (f_X11_made x973 x978 x983 d) fun x984 d984 =>
  (ya_sr sx (v3 + 1)).bind fun x992 =>
  (ya_sr sx (v3 + 2)).bind fun x997 =>
  (ya_sr sx (v3 + 3)).bind fun x1002 =>
  ya_b2 (f_X12_made x992 x997 x1002 d984) fun x1003 d1003 =>
  if x984 = x1003 then
    kj d1003
  else
  none
def f_law_c25 {γ : Type} (sx : Nat × Nat × (Nat → Int32)) (G : ya_G) (v3 : Int32) (d : ya_D) (kj : ya_D → Option γ) : Option γ :=
  (ya_sr sx (v3 + 1)).bind fun x1016 =>
  (ya_sr sx (v3 + 2)).bind fun x1021 =>
  (ya_sr sx (v3 + 3)).bind fun x1026 =>
  ya_b2 (f_X11_least x1016 x1021 x1026 d) fun x1027 d1027 =>
  (ya_sr sx (v3 + 1)).bind fun x1035 =>
  (ya_sr sx (v3 + 2)).bind fun x1040 =>
  (ya_sr sx (v3 + 3)).bind fun x1045 =>
  ya_b2 (f_X12_least x1035 x1040 x1045 d1027) fun x1046 d1046 =>
  if x1027 = x1046 then
    kj d1046
  else
  none
def f_law_c26 {γ : Type} (sx : Nat × Nat × (Nat → Int32)) (G : ya_G) (v3 : Int32) (d : ya_D) (kj : ya_D → Option γ) : Option γ :=
  (ya_sr sx (v3 + 1)).bind fun x1059 =>
  ya_b2 (f_X11_most x1059 d) fun x1060 d1060 =>
  (ya_sr sx (v3 + 1)).bind fun x1068 =>
  ya_b2 (f_X12_most x1068 d1060) fun x1069 d1069 =>
  if x1060 = x1069 then
    kj d1069
  else
  none
def f_law_c27 {γ : Type} (sx : Nat × Nat × (Nat → Int32)) (G : ya_G) (v3 : Int32) (d : ya_D) (kj : ya_D → Option γ) : Option γ :=
  (ya_sr sx (v3 + 1)).bind fun x1082 =>
  (ya_sr sx (v3 + 2)).bind fun x1087 =>
  (ya_sr sx (v3 + 3)).bind fun x1092 =>
  (f_X11_leap x1082 x1087 x1092 d).bind fun x1093 =>
  (ya_sr sx (v3 + 1)).bind fun x1101 =>
  (ya_sr sx (v3 + 2)).bind fun x1106 =>
  (ya_sr sx (v3 + 3)).bind fun x1111 =>
  (f_X12_leap x1101 x1106 x1111 d).bind fun x1112 =>
  if x1093 = x1112 then
    kj d
  else
  none
def f_law_c28 {γ : Type} (sx : Nat × Nat × (Nat → Int32)) (G : ya_G) (v3 : Int32) (d : ya_D) (kj : ya_D → Option γ) : Option γ :=
  (ya_sr sx (v3 + 1)).bind fun x1125 =>
  (ya_sr sx (v3 + 2)).bind fun x1130 =>
  (ya_sr sx (v3 + 3)).bind fun x1135 =>
  (f_X11_come x1125 x1130 x1135 d).bind fun x1136 =>
  (ya_sr sx (v3 + 1)).bind fun x1144 =>
  (ya_sr sx (v3 + 2)).bind fun x1149 =>
  (ya_sr sx (v3 + 3)).bind fun x1154 =>
  (f_X12_come x1144 x1149 x1154 d).bind fun x1155 =>
  if x1136 = x1155 then
    kj d
  else
  none
def f_law_c29 {γ : Type} (sx : Nat × Nat × (Nat → Int32)) (G : ya_G) (v3 : Int32) (d : ya_D) (kj : ya_D → Option γ) : Option γ :=
  (ya_sr sx (v3 + 1)).bind fun x1168 =>
  (ya_sr sx (v3 + 2)).bind fun x1173 =>
  (ya_sr sx (v3 + 3)).bind fun x1178 =>
  (f_X11_agree G x1168 x1173 x1178 d).bind fun x1179 =>
  (ya_sr sx (v3 + 1)).bind fun x1187 =>
  (ya_sr sx (v3 + 2)).bind fun x1192 =>
  (ya_sr sx (v3 + 3)).bind fun x1197 =>
  (f_X12_agree x1187 x1192 x1197 d).bind fun x1198 =>
  if x1179 = x1198 then
    kj d
  else
  none
def f_law_c30 {γ : Type} (sx : Nat × Nat × (Nat → Int32)) (G : ya_G) (v3 : Int32) (d : ya_D) (kj : ya_D → Option γ) : Option γ :=
  (ya_sr sx (v3 + 1)).bind fun x1211 =>
  (ya_sr sx (v3 + 2)).bind fun x1216 =>
  (ya_sr sx (v3 + 3)).bind fun x1221 =>
  (ya_sr sx (v3 + 4)).bind fun x1226 =>
  (f_X11_told G x1211 x1216 x1221 x1226 d).bind fun x1227 =>
  (ya_sr sx (v3 + 1)).bind fun x1235 =>
  (ya_sr sx (v3 + 2)).bind fun x1240 =>
  (ya_sr sx (v3 + 3)).bind fun x1245 =>
  (ya_sr sx (v3 + 4)).bind fun x1250 =>
  (f_X12_told_ x1235 x1240 x1245 x1250 d).bind fun x1251 =>
  if x1227 = x1251 then
    kj d
  else
  none
def f_law_c31 {γ : Type} (sx : Nat × Nat × (Nat → Int32)) (G : ya_G) (v3 : Int32) (d : ya_D) (kj : ya_D → Option γ) : Option γ :=
  (ya_sr sx (v3 + 1)).bind fun x1264 =>
  (f_X11_odd G x1264 d).bind fun x1265 =>
  (ya_sr sx (v3 + 1)).bind fun x1273 =>
  (f_X12_odd x1273 d).bind fun x1274 =>
  if x1265 = x1274 then
    kj d
  else
  none
def f_law_c32 {γ : Type} (sx : Nat × Nat × (Nat → Int32)) (G : ya_G) (v3 : Int32) (d : ya_D) (kj : ya_D → Option γ) : Option γ :=
  (ya_sr sx (v3 + 1)).bind fun x1287 =>
  (ya_sr sx (v3 + 2)).bind fun x1292 =>
  (f_X11_passing x1287 x1292 d).bind fun x1293 =>
  (ya_sr sx (v3 + 1)).bind fun x1301 =>
  (ya_sr sx (v3 + 2)).bind fun x1306 =>
  (f_X12_passing x1301 x1306 d).bind fun x1307 =>
  if x1293 = x1307 then
    kj d
  else
  none
def f_law_c33 {γ : Type} (sx : Nat × Nat × (Nat → Int32)) (G : ya_G) (v3 : Int32) (d : ya_D) (kj : ya_D → Option γ) : Option γ :=
  (ya_sr sx (v3 + 1)).bind fun x1320 =>
  (ya_sr sx (v3 + 2)).bind fun x1325 =>
  (ya_sr sx (v3 + 3)).bind fun x1330 =>
  (ya_sr sx (v3 + 4)).bind fun x1335 =>
  (ya_sr sx (v3 + 5)).bind fun x1340 =>
  ya_b2 (f_X11_like x1320 x1325 x1330 x1335 x1340 d) fun x1341 d1341 =>
  (ya_sr sx (v3 + 1)).bind fun x1349 =>
  (ya_sr sx (v3 + 2)).bind fun x1354 =>
  (ya_sr sx (v3 + 3)).bind fun x1359 =>
  (ya_sr sx (v3 + 4)).bind fun x1364 =>
  (ya_sr sx (v3 + 5)).bind fun x1369 =>
  ya_b2 (f_X12_like x1349 x1354 x1359 x1364 x1369 d1341) fun x1370 d1370 =>
  if x1341 = x1370 then
    kj d1370
  else
  none
def f_law_c34 {γ : Type} (sx : Nat × Nat × (Nat → Int32)) (G : ya_G) (v3 : Int32) (d : ya_D) (kj : ya_D → Option γ) : Option γ :=
  (ya_sr sx (v3 + 1)).bind fun x1383 =>
  (ya_sr sx (v3 + 2)).bind fun x1388 =>
  ya_b2 (f_X11_queue x1383 x1388 d) fun x1389 d1389 =>
  (ya_sr sx (v3 + 1)).bind fun x1397 =>
  (ya_sr sx (v3 + 2)).bind fun x1402 =>
  ya_b2 (f_X12_queue x1397 x1402 d1389) fun x1403 d1403 =>
  if x1389 = x1403 then
    kj d1403
  else
  none
def f_law_c35 {γ : Type} (sx : Nat × Nat × (Nat → Int32)) (G : ya_G) (v3 : Int32) (d : ya_D) (kj : ya_D → Option γ) : Option γ :=
  (ya_sr sx (v3 + 1)).bind fun x1416 =>
  (ya_sr sx (v3 + 2)).bind fun x1421 =>
  ya_b2 (f_X11_spoils x1416 x1421 d) fun x1422 d1422 =>
  (ya_sr sx (v3 + 1)).bind fun x1430 =>
  (ya_sr sx (v3 + 2)).bind fun x1435 =>
  ya_b2 (f_X12_spoils x1430 x1435 d1422) fun x1436 d1436 =>
  if x1422 = x1436 then
    kj d1436
  else
  none
def f_law_c36 {γ : Type} (sx : Nat × Nat × (Nat → Int32)) (G : ya_G) (v3 : Int32) (d : ya_D) (kj : ya_D → Option γ) : Option γ :=
  (ya_sr sx (v3 + 1)).bind fun x1449 =>
  (ya_sr sx (v3 + 2)).bind fun x1454 =>
  (f_X11_shape x1449 x1454 d).bind fun x1455 =>
  (ya_sr sx (v3 + 1)).bind fun x1463 =>
  (ya_sr sx (v3 + 2)).bind fun x1468 =>
  (f_X12_shape x1463 x1468 d).bind fun x1469 =>
  if x1455 = x1469 then
    kj d
  else
  none
def f_law_c37 {γ : Type} (sx : Nat × Nat × (Nat → Int32)) (G : ya_G) (v3 : Int32) (d : ya_D) (kj : ya_D → Option γ) : Option γ :=
  (ya_sr sx (v3 + 1)).bind fun x1482 =>
  (ya_sr sx (v3 + 2)).bind fun x1487 =>
  (f_X11_dearer x1482 x1487 d).bind fun x1488 =>
  (ya_sr sx (v3 + 1)).bind fun x1496 =>
  (ya_sr sx (v3 + 2)).bind fun x1501 =>
  (f_X12_dearer x1496 x1501 d).bind fun x1502 =>
  if x1488 = x1502 then
    kj d
  else
  none
def f_law_c38 {γ : Type} (sx : Nat × Nat × (Nat → Int32)) (G : ya_G) (v3 : Int32) (d : ya_D) (kj : ya_D → Option γ) : Option γ :=
  (ya_sr sx (v3 + 1)).bind fun x1515 =>
  (ya_sr sx (v3 + 2)).bind fun x1520 =>
  ya_b2 (f_X11_keeping x1515 x1520 d) fun x1521 d1521 =>
  (ya_sr sx (v3 + 1)).bind fun x1529 =>
  (ya_sr sx (v3 + 2)).bind fun x1534 =>
  ya_b2 (f_X12_keeping x1529 x1534 d1521) fun x1535 d1535 =>
  if x1521 = x1535 then
    kj d1535
  else
  none
def f_law_c39 {γ : Type} (sx : Nat × Nat × (Nat → Int32)) (G : ya_G) (v3 : Int32) (d : ya_D) (kj : ya_D → Option γ) : Option γ :=
  (ya_sr sx (v3 + 1)).bind fun x1548 =>
  ya_b2 (f_X11_enough x1548 d) fun x1549 d1549 =>
  (ya_sr sx (v3 + 1)).bind fun x1557 =>
  ya_b2 (f_X12_enough x1557 d1549) fun x1558 d1558 =>
  if x1549 = x1558 then
    kj d1558
  else
  none
def f_law_c40 {γ : Type} (sx : Nat × Nat × (Nat → Int32)) (G : ya_G) (v3 : Int32) (d : ya_D) (kj : ya_D → Option γ) : Option γ :=
  (ya_sr sx (v3 + 1)).bind fun x1571 =>
  (ya_sr sx (v3 + 2)).bind fun x1576 =>
  ya_b2 (f_X11_clears x1571 x1576 d) fun x1577 d1577 =>
  (ya_sr sx (v3 + 1)).bind fun x1585 =>
  (ya_sr sx (v3 + 2)).bind fun x1590 =>
  ya_b2 (f_X12_clears x1585 x1590 d1577) fun x1591 d1591 =>
  if x1577 = x1591 then
    kj d1591
  else
  none
def f_law_c41 {γ : Type} (sx : Nat × Nat × (Nat → Int32)) (G : ya_G) (v3 : Int32) (d : ya_D) (kj : ya_D → Option γ) : Option γ :=
  (ya_sr sx (v3 + 1)).bind fun x1604 =>
  ya_b2 (f_X11_poor x1604 d) fun x1605 d1605 =>
  (ya_sr sx (v3 + 1)).bind fun x1613 =>
  ya_b2 (f_X12_poor x1613 d1605) fun x1614 d1614 =>
  if x1605 = x1614 then
    kj d1614
  else
  none
def f_law_c42 {γ : Type} (sx : Nat × Nat × (Nat → Int32)) (G : ya_G) (v3 : Int32) (d : ya_D) (kj : ya_D → Option γ) : Option γ :=
  (ya_sr sx (v3 + 1)).bind fun x1627 =>
  (ya_sr sx (v3 + 2)).bind fun x1632 =>
  ya_b2 (f_X11_village x1627 x1632 d) fun x1633 d1633 =>
  (ya_sr sx (v3 + 1)).bind fun x1641 =>
  (ya_sr sx (v3 + 2)).bind fun x1646 =>
  ya_b2 (f_X12_village x1641 x1646 d1633) fun x1647 d1647 =>
  if x1633 = x1647 then
    kj d1647
  else
  none
def f_law_c43 {γ : Type} (sx : Nat × Nat × (Nat → Int32)) (G : ya_G) (v3 : Int32) (d : ya_D) (kj : ya_D → Option γ) : Option γ :=
  (ya_sr sx (v3 + 1)).bind fun x1660 =>
  (ya_sr sx (v3 + 2)).bind fun x1665 =>
  (ya_sr sx (v3 + 3)).bind fun x1670 =>
  ya_b2 (f_X11_chance x1660 x1665 x1670 d) fun x1671 d1671 =>
  (ya_sr sx (v3 + 1)).bind fun x1679 =>
  (ya_sr sx (v3 + 2)).bind fun x1684 =>
  (ya_sr sx (v3 + 3)).bind fun x1689 =>
  ya_b2 (f_X12_chance x1679 x1684 x1689 d1671) fun x1690 d1690 =>
  if x1671 = x1690 then
    kj d1690
  else
  none
def f_law_c44 {γ : Type} (sx : Nat × Nat × (Nat → Int32)) (G : ya_G) (v3 : Int32) (d : ya_D) (kj : ya_D → Option γ) : Option γ :=
  (ya_sr sx (v3 + 1)).bind fun x1703 =>
  (ya_sr sx (v3 + 2)).bind fun x1708 =>
  ya_b2 (f_X11_lots x1703 x1708 d) fun x1709 d1709 =>
  (ya_sr sx (v3 + 1)).bind fun x1717 =>
  (ya_sr sx (v3 + 2)).bind fun x1722 =>
  ya_b2 (f_X12_lots x1717 x1722 d1709) fun x1723 d1723 =>
  if x1709 = x1723 then
    kj d1723
  else
  none
def f_law_c45 {γ : Type} (sx : Nat × Nat × (Nat → Int32)) (G : ya_G) (v3 : Int32) (d : ya_D) (kj : ya_D → Option γ) : Option γ :=
  (ya_sr sx (v3 + 1)).bind fun x1736 =>
  (ya_sr sx (v3 + 2)).bind fun x1741 =>
  (ya_sr sx (v3 + 3)).bind fun x1746 =>
  ya_b2 (f_X11_years x1736 x1741 x1746 d) fun x1747 d1747 =>
  (ya_sr sx (v3 + 1)).bind fun x1755 =>
  (ya_sr sx (v3 + 2)).bind fun x1760 =>
  (ya_sr sx (v3 + 3)).bind fun x1765 =>
  ya_b2 (f_X12_years x1755 x1760 x1765 d1747) fun x1766 d1766 =>
  if x1747 = x1766 then
    kj d1766
  else
  none
def f_law_c46 {γ : Type} (sx : Nat × Nat × (Nat → Int32)) (G : ya_G) (v3 : Int32) (d : ya_D) (kj : ya_D → Option γ) : Option γ :=
  (ya_sr sx (v3 + 1)).bind fun x1779 =>
  (f_X11_count G x1779 d).bind fun x1780 =>
  (ya_sr sx (v3 + 1)).bind fun x1788 =>
  (f_X12_count x1788 d).bind fun x1789 =>
  if x1780 = x1789 then
    kj d
  else
  none
def f_law_c48 {γ : Type} (sx : Nat × Nat × (Nat → Int32)) (G : ya_G) (v3 : Int32) (d : ya_D) (kj : ya_D → Option γ) : Option γ :=
  (ya_sr sx (v3 + 1)).bind fun x1825 =>
  ya_b2 (f_X11_restore G x1825 d) fun x1826 d1826 =>
  (ya_sr sx (v3 + 1)).bind fun x1834 =>
  ya_b2 (f_X12_restore x1834 d1826) fun x1835 d1835 =>
  if x1826 = x1835 then
    kj d1835
  else
  none
def f_law_c50 {γ : Type} (sx : Nat × Nat × (Nat → Int32)) (G : ya_G) (v3 : Int32) (d : ya_D) (kj : ya_D → Option γ) : Option γ :=
  (ya_sr sx (v3 + 1)).bind fun x1891 =>
  (ya_sr sx (v3 + 2)).bind fun x1896 =>
  (ya_sr sx (v3 + 3)).bind fun x1901 =>
  (ya_sr sx (v3 + 4)).bind fun x1910 =>
  ya_b2 (f_X11_write G x1891 x1896 ((((x1901).toInt64) <<< (((32 : Int32)).toInt64 &&& 63)) ||| (((x1910).toInt64) &&& 4294967295)) d) fun x1917 d1917 =>
  (ya_sr sx (v3 + 1)).bind fun x1925 =>
  (ya_sr sx (v3 + 2)).bind fun x1930 =>
  (ya_sr sx (v3 + 3)).bind fun x1935 =>
  (ya_sr sx (v3 + 4)).bind fun x1944 =>
  ya_b2 (f_X12_write x1925 x1930 ((((x1935).toInt64) <<< (((32 : Int32)).toInt64 &&& 63)) ||| (((x1944).toInt64) &&& 4294967295)) d1917) fun x1951 d1951 =>
  if x1917 = x1951 then
    kj d1951
  else
  none
def f_law_c51 {γ : Type} (sx : Nat × Nat × (Nat → Int32)) (G : ya_G) (v3 : Int32) (d : ya_D) (kj : ya_D → Option γ) : Option γ :=
  (ya_sr sx (v3 + 1)).bind fun x1964 =>
  (ya_sr sx (v3 + 2)).bind fun x1969 =>
  (ya_sr sx (v3 + 3)).bind fun x1974 =>
  (ya_sr sx (v3 + 4)).bind fun x1979 =>
  (ya_sr sx (v3 + 5)).bind fun x1984 =>
  ya_b2 (f_X11_paste G x1964 x1969 x1974 x1979 x1984 d) fun x1985 d1985 =>
  (ya_sr sx (v3 + 1)).bind fun x1993 =>
  (ya_sr sx (v3 + 2)).bind fun x1998 =>
  (ya_sr sx (v3 + 3)).bind fun x2003 =>
  (ya_sr sx (v3 + 4)).bind fun x2008 =>
  (ya_sr sx (v3 + 5)).bind fun x2013 =>
  ya_b2 (f_X12_paste x1993 x1998 x2003 x2008 x2013 d1985) fun x2014 d2014 =>
  if x1985 = x2014 then
    kj d2014
  else
  none
def f_img (G : ya_G) (v1 : Int32) (d : ya_D) : Option (Int32 × ya_G × ya_D) :=
  if v1 < 0 ∨ 3 ≤ v1.toNatClampNeg then (f_X11_image G v1 d).bind fun u => some (u.1, G, u.2)
  else match G.2.2 81 v1.toNatClampNeg with
    | some _ => (f_X11_image G v1 d).bind fun u => some (u.1, G, u.2)
    | none => (f_X11_imageB G.1 v1 d).bind fun u => some (u.1, g_imB G.1 v1.toNatClampNeg G, u.2)
def f_row (G : ya_G) (v1 v2 v3 : Int32) (d : ya_D) : Option (Int32 × ya_G × ya_D) :=
  if v1 < 0 ∨ 4 ≤ v1.toNatClampNeg ∨ v2 < 0 ∨ 3 < v2 ∨ v3 < 0 ∨ 60 < v3 then (f_X11_row G v1 v2 v3 d).bind fun u => some (u.1, G, u.2)
  else match G.2.2 82 v1.toNatClampNeg with
    | some _ => (f_X11_row G v1 v2 v3 d).bind fun u => some (u.1, G, u.2)
    | none => (f_X11_rowB G.1 v1 v2 v3 d).bind fun u => some (u.1, g_rwB G.1 v1.toNatClampNeg G, u.2)
def f_law_c47 {γ : Type} (sx : Nat × Nat × (Nat → Int32)) (G : ya_G) (v3 : Int32) (d : ya_D) (kj : ya_G → ya_D → Option γ) : Option γ :=
  (ya_sr sx (v3 + 1)).bind fun x => (f_img G x d).bind fun u => (ya_sr sx (v3 + 1)).bind fun y => ya_b2 (f_X12_image y u.2.2) fun r d2 => if u.1 = r then kj u.2.1 d2 else none
def f_law_c49 {γ : Type} (sx : Nat × Nat × (Nat → Int32)) (G : ya_G) (v3 : Int32) (d : ya_D) (kj : ya_G → ya_D → Option γ) : Option γ :=
  (ya_sr sx (v3 + 1)).bind fun x1 => (ya_sr sx (v3 + 2)).bind fun x2 => (ya_sr sx (v3 + 3)).bind fun x3 => (f_row G x1 x2 x3 d).bind fun u => (ya_sr sx (v3 + 1)).bind fun y1 => (ya_sr sx (v3 + 2)).bind fun y2 => (ya_sr sx (v3 + 3)).bind fun y3 => ya_b2 (f_X12_row y1 y2 y3 u.2.2) fun r d2 => if u.1 = r then kj u.2.1 d2 else none
def f_law_step {γ : Type} (sx : Nat × Nat × (Nat → Int32)) (G : ya_G) (v3 : Int32) (d : ya_D) (kj : ya_G → ya_D → Option γ) : Option γ :=
  (ya_sr sx v3).bind fun x =>
  if x &&& 63 = 0 then f_law_c0 sx G v3 d (kj G) else
  if x &&& 63 = 1 then f_law_c1 sx G v3 d (kj G) else
  if x &&& 63 = 2 then f_law_c2 sx G v3 d (kj G) else
  if x &&& 63 = 3 then f_law_c3 sx G v3 d (kj G) else
  if x &&& 63 = 4 then f_law_c4 sx G v3 d (kj G) else
  if x &&& 63 = 5 then f_law_c5 sx G v3 d (kj G) else
  if x &&& 63 = 6 then f_law_c6 sx G v3 d (kj G) else
  if x &&& 63 = 7 then f_law_c7 sx G v3 d (kj G) else
  if x &&& 63 = 8 then f_law_c8 sx G v3 d (kj G) else
  if x &&& 63 = 9 then f_law_c9 sx G v3 d (kj G) else
  if x &&& 63 = 10 then f_law_c10 sx G v3 d (kj G) else
  if x &&& 63 = 11 then f_law_c11 sx G v3 d (kj G) else
  if x &&& 63 = 12 then f_law_c12 sx G v3 d (kj G) else
  if x &&& 63 = 13 then f_law_c13 sx G v3 d (kj G) else
  if x &&& 63 = 14 then f_law_c14 sx G v3 d (kj G) else
  if x &&& 63 = 15 then f_law_c15 sx G v3 d (kj G) else
  if x &&& 63 = 16 then f_law_c16 sx G v3 d (kj G) else
  if x &&& 63 = 17 then f_law_c17 sx G v3 d (kj G) else
  if x &&& 63 = 18 then f_law_c18 sx G v3 d (kj G) else
  if x &&& 63 = 19 then f_law_c19 sx G v3 d (kj G) else
  if x &&& 63 = 20 then f_law_c20 sx G v3 d (kj G) else
  if x &&& 63 = 21 then f_law_c21 sx G v3 d (kj G) else
  if x &&& 63 = 22 then f_law_c22 sx G v3 d (kj G) else
  if x &&& 63 = 23 then f_law_c23 sx G v3 d (kj G) else
  if x &&& 63 = 24 then f_law_c24 sx G v3 d (kj G) else
  if x &&& 63 = 25 then f_law_c25 sx G v3 d (kj G) else
  if x &&& 63 = 26 then f_law_c26 sx G v3 d (kj G) else
  if x &&& 63 = 27 then f_law_c27 sx G v3 d (kj G) else
  if x &&& 63 = 28 then f_law_c28 sx G v3 d (kj G) else
  if x &&& 63 = 29 then f_law_c29 sx G v3 d (kj G) else
  if x &&& 63 = 30 then f_law_c30 sx G v3 d (kj G) else
  if x &&& 63 = 31 then f_law_c31 sx G v3 d (kj G) else
  if x &&& 63 = 32 then f_law_c32 sx G v3 d (kj G) else
  if x &&& 63 = 33 then f_law_c33 sx G v3 d (kj G) else
  if x &&& 63 = 34 then f_law_c34 sx G v3 d (kj G) else
  if x &&& 63 = 35 then f_law_c35 sx G v3 d (kj G) else
  if x &&& 63 = 36 then f_law_c36 sx G v3 d (kj G) else
  if x &&& 63 = 37 then f_law_c37 sx G v3 d (kj G) else
  if x &&& 63 = 38 then f_law_c38 sx G v3 d (kj G) else
  if x &&& 63 = 39 then f_law_c39 sx G v3 d (kj G) else
  if x &&& 63 = 40 then f_law_c40 sx G v3 d (kj G) else
  if x &&& 63 = 41 then f_law_c41 sx G v3 d (kj G) else
  if x &&& 63 = 42 then f_law_c42 sx G v3 d (kj G) else
  if x &&& 63 = 43 then f_law_c43 sx G v3 d (kj G) else
  if x &&& 63 = 44 then f_law_c44 sx G v3 d (kj G) else
  if x &&& 63 = 45 then f_law_c45 sx G v3 d (kj G) else
  if x &&& 63 = 46 then f_law_c46 sx G v3 d (kj G) else
  if x &&& 63 = 47 then f_law_c47 sx G v3 d kj else
  if x &&& 63 = 48 then f_law_c48 sx G v3 d (kj G) else
  if x &&& 63 = 49 then f_law_c49 sx G v3 d kj else
  if x &&& 63 = 50 then f_law_c50 sx G v3 d (kj G) else
  if x &&& 63 = 51 then f_law_c51 sx G v3 d (kj G) else
  kj G d
def f_law (sx : Nat × Nat × (Nat → Int32)) : Nat → Int32 → ya_G → ya_D → Option Unit
  | 0, _, _, _ => none
  | n + 1, v3, G, d => if (Int32.ofNat sx.2.1) - 6 < v3 then some () else f_law_step sx G v3 d (fun G' d' => f_law sx n (v3 + 6) G' d')
