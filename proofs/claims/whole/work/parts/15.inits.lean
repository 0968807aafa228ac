def iG_X7_init (a N : Nat) (G : ya_G) : ya_G := ya_sR (ya_nH (N + 0) (G) (23, 2000)) a 0 (some (N + 0))
def iD_X7_init (a N : Nat) (d : ya_D) : ya_D := ya_nE (N + 0) (d)
set_option maxRecDepth 20000 in
theorem iL_X7_init {a N : Nat} {G : ya_G} (hN : G.1 = N) : ya_le G (iG_X7_init a N G) ∧ (iG_X7_init a N G).1 = N + 1 := by
  unfold iG_X7_init
  generalize hG1 : ya_nH (N + 0) G (23, 2000) = G1
  have hl1 : ya_le G G1 := by rw [← hG1]; exact ya_le.nH hN
  have hN1 : G1.1 = N + 1 := by rw [← hG1]; rfl
  generalize hG2 : ya_sR G1 a 0 (some (N + 0)) = G2
  have hl2 : ya_le G1 G2 := by rw [← hG2]; exact ya_le.sR
  have hN2 : G2.1 = N + 1 := by rw [← hG2]; exact hN1
  exact ⟨hl1.tr (hl2), hN2⟩
theorem iR_X7_init {a N : Nat} {G : ya_G} (b : Nat) (hb : b < N) (hba : b ≠ a) (k : Nat) : (iG_X7_init a N G).2.2 b k = G.2.2 b k := by
  unfold iG_X7_init
  rw [ya_sR_n hba]
  rw [ya_nH_n (by omega)]
abbrev Y_X7_init : ya_Y := (cX7_init, RX7, 1, none, "<init>", { frames := 1, cells := 1, slots := 2000, locals := 20 })
theorem m_X7_init : ya_mI yX7_init Y_X7_init 0 := ⟨⟨⟨by decide +kernel, by decide +kernel, by decide +kernel⟩, (ya_in 104 (by decide +kernel) (by decide +kernel)), (ya_in 137 (by decide +kernel) (by decide +kernel))⟩, (ya_in 136 (by decide +kernel) (by decide +kernel)), rfl, rfl⟩
set_option maxHeartbeats 4000000 in
set_option maxRecDepth 20000 in
theorem c_X7_init {X : ya_X} {G : ya_G} {a N : Nat} {d : ya_D} (ho : ya_ob_ G a 7) (hN : G.1 = N) : ya_Ct X yX7_init Y_X7_init [.ref (X.2.1 + a)] G d (none, iG_X7_init a N G, iD_X7_init a N d) := by
  refine ya_ct (by decide +kernel) rfl rfl (Nat.le_of_ble_eq_true rfl) ?_
  show ya_E X Y_X7_init (ya_M X (none, iG_X7_init a N G, iD_X7_init a N d) 1 2000) 0 [(0, .ref (X.2.1 + a))] [] G d 0 0
  unfold iG_X7_init iD_X7_init
  refine ya_aload_n 0 rfl dX7_init_0 ?_
  refine ya_obj ml_X7_3 wm_ob1 wm_ob2 (by decide) (Nat.le_of_ble_eq_true rfl) dX7_init_1 ?_
  refine ya_aload_n 0 rfl dX7_init_4 ?_
  refine ya_sipush 2000 (by decide) dX7_init_5 ?_
  refine ya_newA (q := (N + 0)) (ka := 23) (N := 2000) (by decide) (by decide) rfl wa_23 rfl hN (by decide) (by decide) (Nat.le_of_ble_eq_true rfl) (Nat.le_of_ble_eq_true rfl) (Nat.le_of_ble_eq_true rfl) dX7_init_8 ?_
  generalize hG1 : ya_nH (N + 0) G (23, 2000) = G1
  have hl1 : ya_le G G1 := by rw [← hG1]; exact ya_le.nH hN
  have hN1 : G1.1 = N + 1 := by rw [← hG1]; rfl
  have ho1 := ho.up hl1
  have hs1 : G1.2.1 (N + 0) = (23, 2000) := by rw [← hG1]; exact if_pos rfl
  refine ya_putF fo_X7_9 ho1.1 ho1.2 (.array .char) pg_X7_0 rfl rfl rfl dX7_init_10 ?_
  generalize hG2 : ya_sR G1 a 0 (some (N + 0)) = G2
  have hl2 : ya_le G1 G2 := by rw [← hG2]; exact ya_le.sR
  have hN2 : G2.1 = N + 1 := by rw [← hG2]; exact hN1
  have ho2 := ho1.up hl2
  exact ya_vret rfl rfl rfl rfl rfl (Nat.le_of_ble_eq_true rfl) dX7_init_13
def iG_X8_init (a N : Nat) (G : ya_G) : ya_G := ya_sR (ya_nH (N + 3) (ya_sR (ya_nH (N + 2) (ya_sR (ya_nH (N + 1) (ya_sR (ya_nH (N + 0) (G) (20, 5)) a 1 (some (N + 0))) (20, 100)) a 2 (some (N + 1))) (20, 100)) a 3 (some (N + 2))) (20, 100)) a 4 (some (N + 3))
def iD_X8_init (a N : Nat) (d : ya_D) : ya_D := ya_nE (N + 3) (ya_nE (N + 2) (ya_nE (N + 1) (ya_nE (N + 0) (d))))
set_option maxRecDepth 20000 in
theorem iL_X8_init {a N : Nat} {G : ya_G} (hN : G.1 = N) : ya_le G (iG_X8_init a N G) ∧ (iG_X8_init a N G).1 = N + 4 := by
  unfold iG_X8_init
  generalize hG1 : ya_nH (N + 0) G (20, 5) = G1
  have hl1 : ya_le G G1 := by rw [← hG1]; exact ya_le.nH hN
  have hN1 : G1.1 = N + 1 := by rw [← hG1]; rfl
  generalize hG2 : ya_sR G1 a 1 (some (N + 0)) = G2
  have hl2 : ya_le G1 G2 := by rw [← hG2]; exact ya_le.sR
  have hN2 : G2.1 = N + 1 := by rw [← hG2]; exact hN1
  generalize hG3 : ya_nH (N + 1) G2 (20, 100) = G3
  have hl3 : ya_le G2 G3 := by rw [← hG3]; exact ya_le.nH hN2
  have hN3 : G3.1 = N + 2 := by rw [← hG3]; rfl
  generalize hG4 : ya_sR G3 a 2 (some (N + 1)) = G4
  have hl4 : ya_le G3 G4 := by rw [← hG4]; exact ya_le.sR
  have hN4 : G4.1 = N + 2 := by rw [← hG4]; exact hN3
  generalize hG5 : ya_nH (N + 2) G4 (20, 100) = G5
  have hl5 : ya_le G4 G5 := by rw [← hG5]; exact ya_le.nH hN4
  have hN5 : G5.1 = N + 3 := by rw [← hG5]; rfl
  generalize hG6 : ya_sR G5 a 3 (some (N + 2)) = G6
  have hl6 : ya_le G5 G6 := by rw [← hG6]; exact ya_le.sR
  have hN6 : G6.1 = N + 3 := by rw [← hG6]; exact hN5
  generalize hG7 : ya_nH (N + 3) G6 (20, 100) = G7
  have hl7 : ya_le G6 G7 := by rw [← hG7]; exact ya_le.nH hN6
  have hN7 : G7.1 = N + 4 := by rw [← hG7]; rfl
  generalize hG8 : ya_sR G7 a 4 (some (N + 3)) = G8
  have hl8 : ya_le G7 G8 := by rw [← hG8]; exact ya_le.sR
  have hN8 : G8.1 = N + 4 := by rw [← hG8]; exact hN7
  exact ⟨hl1.tr (hl2.tr (hl3.tr (hl4.tr (hl5.tr (hl6.tr (hl7.tr (hl8))))))), hN8⟩
theorem iR_X8_init {a N : Nat} {G : ya_G} (b : Nat) (hb : b < N) (hba : b ≠ a) (k : Nat) : (iG_X8_init a N G).2.2 b k = G.2.2 b k := by
  unfold iG_X8_init
  rw [ya_sR_n hba]
  rw [ya_nH_n (by omega)]
  rw [ya_sR_n hba]
  rw [ya_nH_n (by omega)]
  rw [ya_sR_n hba]
  rw [ya_nH_n (by omega)]
  rw [ya_sR_n hba]
  rw [ya_nH_n (by omega)]
abbrev Y_X8_init : ya_Y := (cX8_init, RX8, 1, none, "<init>", { frames := 1, cells := 4, slots := 305, locals := 20 })
theorem m_X8_init : ya_mI yX8_init Y_X8_init 0 := ⟨⟨⟨by decide +kernel, by decide +kernel, by decide +kernel⟩, (ya_in 107 (by decide +kernel) (by decide +kernel)), (ya_in 166 (by decide +kernel) (by decide +kernel))⟩, (ya_in 165 (by decide +kernel) (by decide +kernel)), rfl, rfl⟩
set_option maxHeartbeats 4000000 in
set_option maxRecDepth 20000 in
theorem c_X8_init {X : ya_X} {G : ya_G} {a N : Nat} {d : ya_D} (ho : ya_ob_ G a 8) (hN : G.1 = N) : ya_Ct X yX8_init Y_X8_init [.ref (X.2.1 + a)] G d (none, iG_X8_init a N G, iD_X8_init a N d) := by
  refine ya_ct (by decide +kernel) rfl rfl (Nat.le_of_ble_eq_true rfl) ?_
  show ya_E X Y_X8_init (ya_M X (none, iG_X8_init a N G, iD_X8_init a N d) 4 305) 0 [(0, .ref (X.2.1 + a))] [] G d 0 0
  unfold iG_X8_init iD_X8_init
  refine ya_aload_n 0 rfl dX8_init_0 ?_
  refine ya_obj ml_X8_3 wm_ob1 wm_ob2 (by decide) (Nat.le_of_ble_eq_true rfl) dX8_init_1 ?_
  refine ya_aload_n 0 rfl dX8_init_4 ?_
  refine ya_iconst 5 (by decide) dX8_init_5 ?_
  refine ya_newA (q := (N + 0)) (ka := 20) (N := 5) (by decide) (by decide) rfl wa_20 rfl hN (by decide) (by decide) (Nat.le_of_ble_eq_true rfl) (Nat.le_of_ble_eq_true rfl) (Nat.le_of_ble_eq_true rfl) dX8_init_6 ?_
  generalize hG1 : ya_nH (N + 0) G (20, 5) = G1
  have hl1 : ya_le G G1 := by rw [← hG1]; exact ya_le.nH hN
  have hN1 : G1.1 = N + 1 := by rw [← hG1]; rfl
  have ho1 := ho.up hl1
  have hs1 : G1.2.1 (N + 0) = (20, 5) := by rw [← hG1]; exact if_pos rfl
  refine ya_putF fo_X8_9 ho1.1 ho1.2 (.array .int) pg_X8_1 rfl rfl rfl dX8_init_8 ?_
  generalize hG2 : ya_sR G1 a 1 (some (N + 0)) = G2
  have hl2 : ya_le G1 G2 := by rw [← hG2]; exact ya_le.sR
  have hN2 : G2.1 = N + 1 := by rw [← hG2]; exact hN1
  have ho2 := ho1.up hl2
  refine ya_aload_n 0 rfl dX8_init_11 ?_
  refine ya_bipush 100 (by decide) dX8_init_12 ?_
  refine ya_newA (q := (N + 1)) (ka := 20) (N := 100) (by decide) (by decide) rfl wa_20 rfl hN2 (by decide) (by decide) (Nat.le_of_ble_eq_true rfl) (Nat.le_of_ble_eq_true rfl) (Nat.le_of_ble_eq_true rfl) dX8_init_14 ?_
  generalize hG3 : ya_nH (N + 1) G2 (20, 100) = G3
  have hl3 : ya_le G2 G3 := by rw [← hG3]; exact ya_le.nH hN2
  have hN3 : G3.1 = N + 2 := by rw [← hG3]; rfl
  have ho3 := ho2.up hl3
  have hs3 : G3.2.1 (N + 1) = (20, 100) := by rw [← hG3]; exact if_pos rfl
  refine ya_putF fo_X8_15 ho3.1 ho3.2 (.array .int) pg_X8_2 rfl rfl rfl dX8_init_16 ?_
  generalize hG4 : ya_sR G3 a 2 (some (N + 1)) = G4
  have hl4 : ya_le G3 G4 := by rw [← hG4]; exact ya_le.sR
  have hN4 : G4.1 = N + 2 := by rw [← hG4]; exact hN3
  have ho4 := ho3.up hl4
  refine ya_aload_n 0 rfl dX8_init_19 ?_
  refine ya_bipush 100 (by decide) dX8_init_20 ?_
  refine ya_newA (q := (N + 2)) (ka := 20) (N := 100) (by decide) (by decide) rfl wa_20 rfl hN4 (by decide) (by decide) (Nat.le_of_ble_eq_true rfl) (Nat.le_of_ble_eq_true rfl) (Nat.le_of_ble_eq_true rfl) dX8_init_22 ?_
  generalize hG5 : ya_nH (N + 2) G4 (20, 100) = G5
  have hl5 : ya_le G4 G5 := by rw [← hG5]; exact ya_le.nH hN4
  have hN5 : G5.1 = N + 3 := by rw [← hG5]; rfl
  have ho5 := ho4.up hl5
  have hs5 : G5.2.1 (N + 2) = (20, 100) := by rw [← hG5]; exact if_pos rfl
  refine ya_putF fo_X8_18 ho5.1 ho5.2 (.array .int) pg_X8_3 rfl rfl rfl dX8_init_24 ?_
  generalize hG6 : ya_sR G5 a 3 (some (N + 2)) = G6
  have hl6 : ya_le G5 G6 := by rw [← hG6]; exact ya_le.sR
  have hN6 : G6.1 = N + 3 := by rw [← hG6]; exact hN5
  have ho6 := ho5.up hl6
  refine ya_aload_n 0 rfl dX8_init_27 ?_
  refine ya_bipush 100 (by decide) dX8_init_28 ?_
  refine ya_newA (q := (N + 3)) (ka := 20) (N := 100) (by decide) (by decide) rfl wa_20 rfl hN6 (by decide) (by decide) (Nat.le_of_ble_eq_true rfl) (Nat.le_of_ble_eq_true rfl) (Nat.le_of_ble_eq_true rfl) dX8_init_30 ?_
  generalize hG7 : ya_nH (N + 3) G6 (20, 100) = G7
  have hl7 : ya_le G6 G7 := by rw [← hG7]; exact ya_le.nH hN6
  have hN7 : G7.1 = N + 4 := by rw [← hG7]; rfl
  have ho7 := ho6.up hl7
  have hs7 : G7.2.1 (N + 3) = (20, 100) := by rw [← hG7]; exact if_pos rfl
  refine ya_putF fo_X8_21 ho7.1 ho7.2 (.array .int) pg_X8_4 rfl rfl rfl dX8_init_32 ?_
  generalize hG8 : ya_sR G7 a 4 (some (N + 3)) = G8
  have hl8 : ya_le G7 G8 := by rw [← hG8]; exact ya_le.sR
  have hN8 : G8.1 = N + 4 := by rw [← hG8]; exact hN7
  have ho8 := ho7.up hl8
  exact ya_vret rfl rfl rfl rfl rfl (Nat.le_of_ble_eq_true rfl) dX8_init_35
def iG_X6_init (a N : Nat) (G : ya_G) : ya_G := ya_sR (ya_nH (N + 3) (ya_sR (ya_nH (N + 2) (ya_sR (ya_nH (N + 1) (ya_sR (ya_nH (N + 0) (G) (20, 5)) a 1 (some (N + 0))) (20, 5)) a 2 (some (N + 1))) (20, 5)) a 3 (some (N + 2))) (20, 100)) a 4 (some (N + 3))
def iD_X6_init (a N : Nat) (d : ya_D) : ya_D := ya_nE (N + 3) (ya_nE (N + 2) (ya_nE (N + 1) (ya_nE (N + 0) (d))))
set_option maxRecDepth 20000 in
theorem iL_X6_init {a N : Nat} {G : ya_G} (hN : G.1 = N) : ya_le G (iG_X6_init a N G) ∧ (iG_X6_init a N G).1 = N + 4 := by
  unfold iG_X6_init
  generalize hG1 : ya_nH (N + 0) G (20, 5) = G1
  have hl1 : ya_le G G1 := by rw [← hG1]; exact ya_le.nH hN
  have hN1 : G1.1 = N + 1 := by rw [← hG1]; rfl
  generalize hG2 : ya_sR G1 a 1 (some (N + 0)) = G2
  have hl2 : ya_le G1 G2 := by rw [← hG2]; exact ya_le.sR
  have hN2 : G2.1 = N + 1 := by rw [← hG2]; exact hN1
  generalize hG3 : ya_nH (N + 1) G2 (20, 5) = G3
  have hl3 : ya_le G2 G3 := by rw [← hG3]; exact ya_le.nH hN2
  have hN3 : G3.1 = N + 2 := by rw [← hG3]; rfl
  generalize hG4 : ya_sR G3 a 2 (some (N + 1)) = G4
  have hl4 : ya_le G3 G4 := by rw [← hG4]; exact ya_le.sR
  have hN4 : G4.1 = N + 2 := by rw [← hG4]; exact hN3
  generalize hG5 : ya_nH (N + 2) G4 (20, 5) = G5
  have hl5 : ya_le G4 G5 := by rw [← hG5]; exact ya_le.nH hN4
  have hN5 : G5.1 = N + 3 := by rw [← hG5]; rfl
  generalize hG6 : ya_sR G5 a 3 (some (N + 2)) = G6
  have hl6 : ya_le G5 G6 := by rw [← hG6]; exact ya_le.sR
  have hN6 : G6.1 = N + 3 := by rw [← hG6]; exact hN5
  generalize hG7 : ya_nH (N + 3) G6 (20, 100) = G7
  have hl7 : ya_le G6 G7 := by rw [← hG7]; exact ya_le.nH hN6
  have hN7 : G7.1 = N + 4 := by rw [← hG7]; rfl
  generalize hG8 : ya_sR G7 a 4 (some (N + 3)) = G8
  have hl8 : ya_le G7 G8 := by rw [← hG8]; exact ya_le.sR
  have hN8 : G8.1 = N + 4 := by rw [← hG8]; exact hN7
  exact ⟨hl1.tr (hl2.tr (hl3.tr (hl4.tr (hl5.tr (hl6.tr (hl7.tr (hl8))))))), hN8⟩
theorem iR_X6_init {a N : Nat} {G : ya_G} (b : Nat) (hb : b < N) (hba : b ≠ a) (k : Nat) : (iG_X6_init a N G).2.2 b k = G.2.2 b k := by
  unfold iG_X6_init
  rw [ya_sR_n hba]
  rw [ya_nH_n (by omega)]
  rw [ya_sR_n hba]
  rw [ya_nH_n (by omega)]
  rw [ya_sR_n hba]
  rw [ya_nH_n (by omega)]
  rw [ya_sR_n hba]
  rw [ya_nH_n (by omega)]
abbrev Y_X6_init : ya_Y := (cX6_init, RX6, 1, none, "<init>", { frames := 1, cells := 4, slots := 115, locals := 20 })
theorem m_X6_init : ya_mI yX6_init Y_X6_init 0 := ⟨⟨⟨by decide +kernel, by decide +kernel, by decide +kernel⟩, (ya_in 108 (by decide +kernel) (by decide +kernel)), (ya_in 205 (by decide +kernel) (by decide +kernel))⟩, (ya_in 204 (by decide +kernel) (by decide +kernel)), rfl, rfl⟩
set_option maxHeartbeats 4000000 in
set_option maxRecDepth 20000 in
theorem c_X6_init {X : ya_X} {G : ya_G} {a N : Nat} {d : ya_D} (ho : ya_ob_ G a 6) (hN : G.1 = N) : ya_Ct X yX6_init Y_X6_init [.ref (X.2.1 + a)] G d (none, iG_X6_init a N G, iD_X6_init a N d) := by
  refine ya_ct (by decide +kernel) rfl rfl (Nat.le_of_ble_eq_true rfl) ?_
  show ya_E X Y_X6_init (ya_M X (none, iG_X6_init a N G, iD_X6_init a N d) 4 115) 0 [(0, .ref (X.2.1 + a))] [] G d 0 0
  unfold iG_X6_init iD_X6_init
  refine ya_aload_n 0 rfl dX6_init_0 ?_
  refine ya_obj ml_X6_3 wm_ob1 wm_ob2 (by decide) (Nat.le_of_ble_eq_true rfl) dX6_init_1 ?_
  refine ya_aload_n 0 rfl dX6_init_4 ?_
  refine ya_iconst 5 (by decide) dX6_init_5 ?_
  refine ya_newA (q := (N + 0)) (ka := 20) (N := 5) (by decide) (by decide) rfl wa_20 rfl hN (by decide) (by decide) (Nat.le_of_ble_eq_true rfl) (Nat.le_of_ble_eq_true rfl) (Nat.le_of_ble_eq_true rfl) dX6_init_6 ?_
  generalize hG1 : ya_nH (N + 0) G (20, 5) = G1
  have hl1 : ya_le G G1 := by rw [← hG1]; exact ya_le.nH hN
  have hN1 : G1.1 = N + 1 := by rw [← hG1]; rfl
  have ho1 := ho.up hl1
  have hs1 : G1.2.1 (N + 0) = (20, 5) := by rw [← hG1]; exact if_pos rfl
  refine ya_putF fo_X6_9 ho1.1 ho1.2 (.array .int) pg_X6_1 rfl rfl rfl dX6_init_8 ?_
  generalize hG2 : ya_sR G1 a 1 (some (N + 0)) = G2
  have hl2 : ya_le G1 G2 := by rw [← hG2]; exact ya_le.sR
  have hN2 : G2.1 = N + 1 := by rw [← hG2]; exact hN1
  have ho2 := ho1.up hl2
  refine ya_aload_n 0 rfl dX6_init_11 ?_
  refine ya_iconst 5 (by decide) dX6_init_12 ?_
  refine ya_newA (q := (N + 1)) (ka := 20) (N := 5) (by decide) (by decide) rfl wa_20 rfl hN2 (by decide) (by decide) (Nat.le_of_ble_eq_true rfl) (Nat.le_of_ble_eq_true rfl) (Nat.le_of_ble_eq_true rfl) dX6_init_13 ?_
  generalize hG3 : ya_nH (N + 1) G2 (20, 5) = G3
  have hl3 : ya_le G2 G3 := by rw [← hG3]; exact ya_le.nH hN2
  have hN3 : G3.1 = N + 2 := by rw [← hG3]; rfl
  have ho3 := ho2.up hl3
  have hs3 : G3.2.1 (N + 1) = (20, 5) := by rw [← hG3]; exact if_pos rfl
  refine ya_putF fo_X6_15 ho3.1 ho3.2 (.array .int) pg_X6_2 rfl rfl rfl dX6_init_15 ?_
  generalize hG4 : ya_sR G3 a 2 (some (N + 1)) = G4
  have hl4 : ya_le G3 G4 := by rw [← hG4]; exact ya_le.sR
  have hN4 : G4.1 = N + 2 := by rw [← hG4]; exact hN3
  have ho4 := ho3.up hl4
  refine ya_aload_n 0 rfl dX6_init_18 ?_
  refine ya_iconst 5 (by decide) dX6_init_19 ?_
  refine ya_newA (q := (N + 2)) (ka := 20) (N := 5) (by decide) (by decide) rfl wa_20 rfl hN4 (by decide) (by decide) (Nat.le_of_ble_eq_true rfl) (Nat.le_of_ble_eq_true rfl) (Nat.le_of_ble_eq_true rfl) dX6_init_20 ?_
  generalize hG5 : ya_nH (N + 2) G4 (20, 5) = G5
  have hl5 : ya_le G4 G5 := by rw [← hG5]; exact ya_le.nH hN4
  have hN5 : G5.1 = N + 3 := by rw [← hG5]; rfl
  have ho5 := ho4.up hl5
  have hs5 : G5.2.1 (N + 2) = (20, 5) := by rw [← hG5]; exact if_pos rfl
  refine ya_putF fo_X6_18 ho5.1 ho5.2 (.array .int) pg_X6_3 rfl rfl rfl dX6_init_22 ?_
  generalize hG6 : ya_sR G5 a 3 (some (N + 2)) = G6
  have hl6 : ya_le G5 G6 := by rw [← hG6]; exact ya_le.sR
  have hN6 : G6.1 = N + 3 := by rw [← hG6]; exact hN5
  have ho6 := ho5.up hl6
  refine ya_aload_n 0 rfl dX6_init_25 ?_
  refine ya_bipush 100 (by decide) dX6_init_26 ?_
  refine ya_newA (q := (N + 3)) (ka := 20) (N := 100) (by decide) (by decide) rfl wa_20 rfl hN6 (by decide) (by decide) (Nat.le_of_ble_eq_true rfl) (Nat.le_of_ble_eq_true rfl) (Nat.le_of_ble_eq_true rfl) dX6_init_28 ?_
  generalize hG7 : ya_nH (N + 3) G6 (20, 100) = G7
  have hl7 : ya_le G6 G7 := by rw [← hG7]; exact ya_le.nH hN6
  have hN7 : G7.1 = N + 4 := by rw [← hG7]; rfl
  have ho7 := ho6.up hl7
  have hs7 : G7.2.1 (N + 3) = (20, 100) := by rw [← hG7]; exact if_pos rfl
  refine ya_putF fo_X6_21 ho7.1 ho7.2 (.array .int) pg_X6_4 rfl rfl rfl dX6_init_30 ?_
  generalize hG8 : ya_sR G7 a 4 (some (N + 3)) = G8
  have hl8 : ya_le G7 G8 := by rw [← hG8]; exact ya_le.sR
  have hN8 : G8.1 = N + 4 := by rw [← hG8]; exact hN7
  have ho8 := ho7.up hl8
  exact ya_vret rfl rfl rfl rfl rfl (Nat.le_of_ble_eq_true rfl) dX6_init_33
def iG_X1_init (a N : Nat) (G : ya_G) : ya_G := ya_sR (ya_nH (N + 5) (ya_sR (ya_nH (N + 4) (ya_sR (ya_nH (N + 3) (ya_sR (ya_nH (N + 2) (ya_sR (ya_nH (N + 1) (ya_sR (ya_nH (N + 0) (G) (20, 7)) a 1 (some (N + 0))) (20, 7)) a 2 (some (N + 1))) (20, 7)) a 3 (some (N + 2))) (20, 7)) a 4 (some (N + 3))) (20, 7)) a 5 (some (N + 4))) (20, 7)) a 6 (some (N + 5))
def iD_X1_init (a N : Nat) (d : ya_D) : ya_D := ya_nE (N + 5) (ya_nE (N + 4) (ya_nE (N + 3) (ya_nE (N + 2) (ya_nE (N + 1) (ya_nE (N + 0) (d))))))
set_option maxRecDepth 20000 in
theorem iL_X1_init {a N : Nat} {G : ya_G} (hN : G.1 = N) : ya_le G (iG_X1_init a N G) ∧ (iG_X1_init a N G).1 = N + 6 := by
  unfold iG_X1_init
  generalize hG1 : ya_nH (N + 0) G (20, 7) = G1
  have hl1 : ya_le G G1 := by rw [← hG1]; exact ya_le.nH hN
  have hN1 : G1.1 = N + 1 := by rw [← hG1]; rfl
  generalize hG2 : ya_sR G1 a 1 (some (N + 0)) = G2
  have hl2 : ya_le G1 G2 := by rw [← hG2]; exact ya_le.sR
  have hN2 : G2.1 = N + 1 := by rw [← hG2]; exact hN1
  generalize hG3 : ya_nH (N + 1) G2 (20, 7) = G3
  have hl3 : ya_le G2 G3 := by rw [← hG3]; exact ya_le.nH hN2
  have hN3 : G3.1 = N + 2 := by rw [← hG3]; rfl
  generalize hG4 : ya_sR G3 a 2 (some (N + 1)) = G4
  have hl4 : ya_le G3 G4 := by rw [← hG4]; exact ya_le.sR
  have hN4 : G4.1 = N + 2 := by rw [← hG4]; exact hN3
  generalize hG5 : ya_nH (N + 2) G4 (20, 7) = G5
  have hl5 : ya_le G4 G5 := by rw [← hG5]; exact ya_le.nH hN4
  have hN5 : G5.1 = N + 3 := by rw [← hG5]; rfl
  generalize hG6 : ya_sR G5 a 3 (some (N + 2)) = G6
  have hl6 : ya_le G5 G6 := by rw [← hG6]; exact ya_le.sR
  have hN6 : G6.1 = N + 3 := by rw [← hG6]; exact hN5
  generalize hG7 : ya_nH (N + 3) G6 (20, 7) = G7
  have hl7 : ya_le G6 G7 := by rw [← hG7]; exact ya_le.nH hN6
  have hN7 : G7.1 = N + 4 := by rw [← hG7]; rfl
  generalize hG8 : ya_sR G7 a 4 (some (N + 3)) = G8
  have hl8 : ya_le G7 G8 := by rw [← hG8]; exact ya_le.sR
  have hN8 : G8.1 = N + 4 := by rw [← hG8]; exact hN7
  generalize hG9 : ya_nH (N + 4) G8 (20, 7) = G9
  have hl9 : ya_le G8 G9 := by rw [← hG9]; exact ya_le.nH hN8
  have hN9 : G9.1 = N + 5 := by rw [← hG9]; rfl
  generalize hG10 : ya_sR G9 a 5 (some (N + 4)) = G10
  have hl10 : ya_le G9 G10 := by rw [← hG10]; exact ya_le.sR
  have hN10 : G10.1 = N + 5 := by rw [← hG10]; exact hN9
  generalize hG11 : ya_nH (N + 5) G10 (20, 7) = G11
  have hl11 : ya_le G10 G11 := by rw [← hG11]; exact ya_le.nH hN10
  have hN11 : G11.1 = N + 6 := by rw [← hG11]; rfl
  generalize hG12 : ya_sR G11 a 6 (some (N + 5)) = G12
  have hl12 : ya_le G11 G12 := by rw [← hG12]; exact ya_le.sR
  have hN12 : G12.1 = N + 6 := by rw [← hG12]; exact hN11
  exact ⟨hl1.tr (hl2.tr (hl3.tr (hl4.tr (hl5.tr (hl6.tr (hl7.tr (hl8.tr (hl9.tr (hl10.tr (hl11.tr (hl12))))))))))), hN12⟩
theorem iR_X1_init {a N : Nat} {G : ya_G} (b : Nat) (hb : b < N) (hba : b ≠ a) (k : Nat) : (iG_X1_init a N G).2.2 b k = G.2.2 b k := by
  unfold iG_X1_init
  rw [ya_sR_n hba]
  rw [ya_nH_n (by omega)]
  rw [ya_sR_n hba]
  rw [ya_nH_n (by omega)]
  rw [ya_sR_n hba]
  rw [ya_nH_n (by omega)]
  rw [ya_sR_n hba]
  rw [ya_nH_n (by omega)]
  rw [ya_sR_n hba]
  rw [ya_nH_n (by omega)]
  rw [ya_sR_n hba]
  rw [ya_nH_n (by omega)]
abbrev Y_X1_init : ya_Y := (cX1_init, RX1, 1, none, "<init>", { frames := 1, cells := 6, slots := 42, locals := 20 })
theorem m_X1_init : ya_mI yX1_init Y_X1_init 0 := ⟨⟨⟨by decide +kernel, by decide +kernel, by decide +kernel⟩, (ya_in 109 (by decide +kernel) (by decide +kernel)), (ya_in 237 (by decide +kernel) (by decide +kernel))⟩, (ya_in 236 (by decide +kernel) (by decide +kernel)), rfl, rfl⟩
set_option maxHeartbeats 4000000 in
set_option maxRecDepth 20000 in
theorem c_X1_init {X : ya_X} {G : ya_G} {a N : Nat} {d : ya_D} (ho : ya_ob_ G a 1) (hN : G.1 = N) : ya_Ct X yX1_init Y_X1_init [.ref (X.2.1 + a)] G d (none, iG_X1_init a N G, iD_X1_init a N d) := by
  refine ya_ct (by decide +kernel) rfl rfl (Nat.le_of_ble_eq_true rfl) ?_
  show ya_E X Y_X1_init (ya_M X (none, iG_X1_init a N G, iD_X1_init a N d) 6 42) 0 [(0, .ref (X.2.1 + a))] [] G d 0 0
  unfold iG_X1_init iD_X1_init
  refine ya_aload_n 0 rfl dX1_init_0 ?_
  refine ya_obj ml_X1_3 wm_ob1 wm_ob2 (by decide) (Nat.le_of_ble_eq_true rfl) dX1_init_1 ?_
  refine ya_aload_n 0 rfl dX1_init_4 ?_
  refine ya_bipush 7 (by decide) dX1_init_5 ?_
  refine ya_newA (q := (N + 0)) (ka := 20) (N := 7) (by decide) (by decide) rfl wa_20 rfl hN (by decide) (by decide) (Nat.le_of_ble_eq_true rfl) (Nat.le_of_ble_eq_true rfl) (Nat.le_of_ble_eq_true rfl) dX1_init_7 ?_
  generalize hG1 : ya_nH (N + 0) G (20, 7) = G1
  have hl1 : ya_le G G1 := by rw [← hG1]; exact ya_le.nH hN
  have hN1 : G1.1 = N + 1 := by rw [← hG1]; rfl
  have ho1 := ho.up hl1
  have hs1 : G1.2.1 (N + 0) = (20, 7) := by rw [← hG1]; exact if_pos rfl
  refine ya_putF fo_X1_9 ho1.1 ho1.2 (.array .int) pg_X1_1 rfl rfl rfl dX1_init_9 ?_
  generalize hG2 : ya_sR G1 a 1 (some (N + 0)) = G2
  have hl2 : ya_le G1 G2 := by rw [← hG2]; exact ya_le.sR
  have hN2 : G2.1 = N + 1 := by rw [← hG2]; exact hN1
  have ho2 := ho1.up hl2
  refine ya_aload_n 0 rfl dX1_init_12 ?_
  refine ya_bipush 7 (by decide) dX1_init_13 ?_
  refine ya_newA (q := (N + 1)) (ka := 20) (N := 7) (by decide) (by decide) rfl wa_20 rfl hN2 (by decide) (by decide) (Nat.le_of_ble_eq_true rfl) (Nat.le_of_ble_eq_true rfl) (Nat.le_of_ble_eq_true rfl) dX1_init_15 ?_
  generalize hG3 : ya_nH (N + 1) G2 (20, 7) = G3
  have hl3 : ya_le G2 G3 := by rw [← hG3]; exact ya_le.nH hN2
  have hN3 : G3.1 = N + 2 := by rw [← hG3]; rfl
  have ho3 := ho2.up hl3
  have hs3 : G3.2.1 (N + 1) = (20, 7) := by rw [← hG3]; exact if_pos rfl
  refine ya_putF fo_X1_15 ho3.1 ho3.2 (.array .int) pg_X1_2 rfl rfl rfl dX1_init_17 ?_
  generalize hG4 : ya_sR G3 a 2 (some (N + 1)) = G4
  have hl4 : ya_le G3 G4 := by rw [← hG4]; exact ya_le.sR
  have hN4 : G4.1 = N + 2 := by rw [← hG4]; exact hN3
  have ho4 := ho3.up hl4
  refine ya_aload_n 0 rfl dX1_init_20 ?_
  refine ya_bipush 7 (by decide) dX1_init_21 ?_
  refine ya_newA (q := (N + 2)) (ka := 20) (N := 7) (by decide) (by decide) rfl wa_20 rfl hN4 (by decide) (by decide) (Nat.le_of_ble_eq_true rfl) (Nat.le_of_ble_eq_true rfl) (Nat.le_of_ble_eq_true rfl) dX1_init_23 ?_
  generalize hG5 : ya_nH (N + 2) G4 (20, 7) = G5
  have hl5 : ya_le G4 G5 := by rw [← hG5]; exact ya_le.nH hN4
  have hN5 : G5.1 = N + 3 := by rw [← hG5]; rfl
  have ho5 := ho4.up hl5
  have hs5 : G5.2.1 (N + 2) = (20, 7) := by rw [← hG5]; exact if_pos rfl
  refine ya_putF fo_X1_18 ho5.1 ho5.2 (.array .int) pg_X1_3 rfl rfl rfl dX1_init_25 ?_
  generalize hG6 : ya_sR G5 a 3 (some (N + 2)) = G6
  have hl6 : ya_le G5 G6 := by rw [← hG6]; exact ya_le.sR
  have hN6 : G6.1 = N + 3 := by rw [← hG6]; exact hN5
  have ho6 := ho5.up hl6
  refine ya_aload_n 0 rfl dX1_init_28 ?_
  refine ya_bipush 7 (by decide) dX1_init_29 ?_
  refine ya_newA (q := (N + 3)) (ka := 20) (N := 7) (by decide) (by decide) rfl wa_20 rfl hN6 (by decide) (by decide) (Nat.le_of_ble_eq_true rfl) (Nat.le_of_ble_eq_true rfl) (Nat.le_of_ble_eq_true rfl) dX1_init_31 ?_
  generalize hG7 : ya_nH (N + 3) G6 (20, 7) = G7
  have hl7 : ya_le G6 G7 := by rw [← hG7]; exact ya_le.nH hN6
  have hN7 : G7.1 = N + 4 := by rw [← hG7]; rfl
  have ho7 := ho6.up hl7
  have hs7 : G7.2.1 (N + 3) = (20, 7) := by rw [← hG7]; exact if_pos rfl
  refine ya_putF fo_X1_21 ho7.1 ho7.2 (.array .int) pg_X1_4 rfl rfl rfl dX1_init_33 ?_
  generalize hG8 : ya_sR G7 a 4 (some (N + 3)) = G8
  have hl8 : ya_le G7 G8 := by rw [← hG8]; exact ya_le.sR
  have hN8 : G8.1 = N + 4 := by rw [← hG8]; exact hN7
  have ho8 := ho7.up hl8
  refine ya_aload_n 0 rfl dX1_init_36 ?_
  refine ya_bipush 7 (by decide) dX1_init_37 ?_
  refine ya_newA (q := (N + 4)) (ka := 20) (N := 7) (by decide) (by decide) rfl wa_20 rfl hN8 (by decide) (by decide) (Nat.le_of_ble_eq_true rfl) (Nat.le_of_ble_eq_true rfl) (Nat.le_of_ble_eq_true rfl) dX1_init_39 ?_
  generalize hG9 : ya_nH (N + 4) G8 (20, 7) = G9
  have hl9 : ya_le G8 G9 := by rw [← hG9]; exact ya_le.nH hN8
  have hN9 : G9.1 = N + 5 := by rw [← hG9]; rfl
  have ho9 := ho8.up hl9
  have hs9 : G9.2.1 (N + 4) = (20, 7) := by rw [← hG9]; exact if_pos rfl
  refine ya_putF fo_X1_24 ho9.1 ho9.2 (.array .int) pg_X1_5 rfl rfl rfl dX1_init_41 ?_
  generalize hG10 : ya_sR G9 a 5 (some (N + 4)) = G10
  have hl10 : ya_le G9 G10 := by rw [← hG10]; exact ya_le.sR
  have hN10 : G10.1 = N + 5 := by rw [← hG10]; exact hN9
  have ho10 := ho9.up hl10
  refine ya_aload_n 0 rfl dX1_init_44 ?_
  refine ya_bipush 7 (by decide) dX1_init_45 ?_
  refine ya_newA (q := (N + 5)) (ka := 20) (N := 7) (by decide) (by decide) rfl wa_20 rfl hN10 (by decide) (by decide) (Nat.le_of_ble_eq_true rfl) (Nat.le_of_ble_eq_true rfl) (Nat.le_of_ble_eq_true rfl) dX1_init_47 ?_
  generalize hG11 : ya_nH (N + 5) G10 (20, 7) = G11
  have hl11 : ya_le G10 G11 := by rw [← hG11]; exact ya_le.nH hN10
  have hN11 : G11.1 = N + 6 := by rw [← hG11]; rfl
  have ho11 := ho10.up hl11
  have hs11 : G11.2.1 (N + 5) = (20, 7) := by rw [← hG11]; exact if_pos rfl
  refine ya_putF fo_X1_27 ho11.1 ho11.2 (.array .int) pg_X1_6 rfl rfl rfl dX1_init_49 ?_
  generalize hG12 : ya_sR G11 a 6 (some (N + 5)) = G12
  have hl12 : ya_le G11 G12 := by rw [← hG12]; exact ya_le.sR
  have hN12 : G12.1 = N + 6 := by rw [← hG12]; exact hN11
  have ho12 := ho11.up hl12
  exact ya_vret rfl rfl rfl rfl rfl (Nat.le_of_ble_eq_true rfl) dX1_init_52
def iG_X2_init (a N : Nat) (G : ya_G) : ya_G := ya_sR (iG_X1_init (N + 10) (N + 11) (ya_nH (N + 10) (ya_sR (iG_X6_init (N + 5) (N + 6) (ya_nH (N + 5) (ya_sR (iG_X8_init (N + 0) (N + 1) (ya_nH (N + 0) (G) (8, 0))) a 3 (some (N + 0))) (6, 0))) a 4 (some (N + 5))) (1, 0))) a 5 (some (N + 10))
def iD_X2_init (a N : Nat) (d : ya_D) : ya_D := iD_X1_init (N + 10) (N + 11) (ya_nE (N + 10) (iD_X6_init (N + 5) (N + 6) (ya_nE (N + 5) (iD_X8_init (N + 0) (N + 1) (ya_nE (N + 0) (d))))))
set_option maxRecDepth 20000 in
theorem iL_X2_init {a N : Nat} {G : ya_G} (hN : G.1 = N) : ya_le G (iG_X2_init a N G) ∧ (iG_X2_init a N G).1 = N + 17 := by
  unfold iG_X2_init
  generalize hG1 : ya_nH (N + 0) G (8, 0) = G1
  have hl1 : ya_le G G1 := by rw [← hG1]; exact ya_le.nH hN
  have hN1 : G1.1 = N + 1 := by rw [← hG1]; rfl
  generalize hG2 : iG_X8_init (N + 0) (N + 1) G1 = G2
  have hl2 : ya_le G1 G2 := by rw [← hG2]; exact (iL_X8_init hN1).1
  have hN2 : G2.1 = N + 5 := by rw [← hG2, (iL_X8_init hN1).2]
  generalize hG3 : ya_sR G2 a 3 (some (N + 0)) = G3
  have hl3 : ya_le G2 G3 := by rw [← hG3]; exact ya_le.sR
  have hN3 : G3.1 = N + 5 := by rw [← hG3]; exact hN2
  generalize hG4 : ya_nH (N + 5) G3 (6, 0) = G4
  have hl4 : ya_le G3 G4 := by rw [← hG4]; exact ya_le.nH hN3
  have hN4 : G4.1 = N + 6 := by rw [← hG4]; rfl
  generalize hG5 : iG_X6_init (N + 5) (N + 6) G4 = G5
  have hl5 : ya_le G4 G5 := by rw [← hG5]; exact (iL_X6_init hN4).1
  have hN5 : G5.1 = N + 10 := by rw [← hG5, (iL_X6_init hN4).2]
  generalize hG6 : ya_sR G5 a 4 (some (N + 5)) = G6
  have hl6 : ya_le G5 G6 := by rw [← hG6]; exact ya_le.sR
  have hN6 : G6.1 = N + 10 := by rw [← hG6]; exact hN5
  generalize hG7 : ya_nH (N + 10) G6 (1, 0) = G7
  have hl7 : ya_le G6 G7 := by rw [← hG7]; exact ya_le.nH hN6
  have hN7 : G7.1 = N + 11 := by rw [← hG7]; rfl
  generalize hG8 : iG_X1_init (N + 10) (N + 11) G7 = G8
  have hl8 : ya_le G7 G8 := by rw [← hG8]; exact (iL_X1_init hN7).1
  have hN8 : G8.1 = N + 17 := by rw [← hG8, (iL_X1_init hN7).2]
  generalize hG9 : ya_sR G8 a 5 (some (N + 10)) = G9
  have hl9 : ya_le G8 G9 := by rw [← hG9]; exact ya_le.sR
  have hN9 : G9.1 = N + 17 := by rw [← hG9]; exact hN8
  exact ⟨hl1.tr (hl2.tr (hl3.tr (hl4.tr (hl5.tr (hl6.tr (hl7.tr (hl8.tr (hl9)))))))), hN9⟩
theorem iR_X2_init {a N : Nat} {G : ya_G} (b : Nat) (hb : b < N) (hba : b ≠ a) (k : Nat) : (iG_X2_init a N G).2.2 b k = G.2.2 b k := by
  unfold iG_X2_init
  rw [ya_sR_n hba]
  rw [iR_X1_init b (by omega) (by omega) k]
  rw [ya_nH_n (by omega)]
  rw [ya_sR_n hba]
  rw [iR_X6_init b (by omega) (by omega) k]
  rw [ya_nH_n (by omega)]
  rw [ya_sR_n hba]
  rw [iR_X8_init b (by omega) (by omega) k]
  rw [ya_nH_n (by omega)]
abbrev Y_X2_init : ya_Y := (cX2_init, RX2, 1, none, "<init>", { frames := 2, cells := 17, slots := 479, locals := 40 })
theorem m_X2_init : ya_mI yX2_init Y_X2_init 0 := ⟨⟨⟨by decide +kernel, by decide +kernel, by decide +kernel⟩, (ya_in 106 (by decide +kernel) (by decide +kernel)), (ya_in 160 (by decide +kernel) (by decide +kernel))⟩, (ya_in 159 (by decide +kernel) (by decide +kernel)), rfl, rfl⟩
set_option maxHeartbeats 4000000 in
set_option maxRecDepth 20000 in
theorem c_X2_init {X : ya_X} {G : ya_G} {a N : Nat} {d : ya_D} (ho : ya_ob_ G a 2) (hN : G.1 = N) : ya_Ct X yX2_init Y_X2_init [.ref (X.2.1 + a)] G d (none, iG_X2_init a N G, iD_X2_init a N d) := by
  refine ya_ct (by decide +kernel) rfl rfl (Nat.le_of_ble_eq_true rfl) ?_
  show ya_E X Y_X2_init (ya_M X (none, iG_X2_init a N G, iD_X2_init a N d) 17 479) 0 [(0, .ref (X.2.1 + a))] [] G d 0 0
  unfold iG_X2_init iD_X2_init
  refine ya_aload_n 0 rfl dX2_init_0 ?_
  refine ya_obj ml_X2_1 wm_ob1 wm_ob2 (by decide) (Nat.le_of_ble_eq_true rfl) dX2_init_1 ?_
  refine ya_aload_n 0 rfl dX2_init_4 ?_
  refine ya_newO (q := (N + 0)) mk_X2_7 hN (Nat.le_of_ble_eq_true rfl) (Nat.le_of_ble_eq_true rfl) dX2_init_5 ?_
  generalize hG1 : ya_nH (N + 0) G (8, 0) = G1
  have hl1 : ya_le G G1 := by rw [← hG1]; exact ya_le.nH hN
  have hN1 : G1.1 = N + 1 := by rw [← hG1]; rfl
  have ho1 := ho.up hl1
  have hn1 : ya_ob_ G1 (N + 0) 8 := by rw [← hG1]; exact ya_ob_.new
  refine ya_dup rfl dX2_init_8 ?_
  refine ya_callINv (S := [.ref (X.2.1 + (N + 0)), .ref (X.2.1 + a)]) (c_X8_init (a := (N + 0)) hn1 hN1) m_X8_init 3 rfl rfl ⟨Nat.le_of_ble_eq_true rfl, Nat.le_of_ble_eq_true rfl⟩ (Nat.le_of_ble_eq_true rfl) ⟨Nat.le_of_ble_eq_true rfl, Nat.le_of_ble_eq_true rfl⟩ (by show (iG_X8_init (N + 0) _ _).1 = _; rw [(iL_X8_init hN1).2, hN1]) dX2_init_9 rfl ?_
  generalize hG2 : iG_X8_init (N + 0) (N + 1) G1 = G2
  have hl2 : ya_le G1 G2 := by rw [← hG2]; exact (iL_X8_init hN1).1
  have hN2 : G2.1 = N + 5 := by rw [← hG2, (iL_X8_init hN1).2]
  have ho2 := ho1.up hl2
  refine ya_putF fo_X2_10 ho2.1 ho2.2 (.object "YearAgo$Things") pg_X2_3 rfl rfl rfl dX2_init_12 ?_
  generalize hG3 : ya_sR G2 a 3 (some (N + 0)) = G3
  have hl3 : ya_le G2 G3 := by rw [← hG3]; exact ya_le.sR
  have hN3 : G3.1 = N + 5 := by rw [← hG3]; exact hN2
  have ho3 := ho2.up hl3
  refine ya_aload_n 0 rfl dX2_init_15 ?_
  refine ya_newO (q := (N + 5)) mk_X2_16 hN3 (Nat.le_of_ble_eq_true rfl) (Nat.le_of_ble_eq_true rfl) dX2_init_16 ?_
  generalize hG4 : ya_nH (N + 5) G3 (6, 0) = G4
  have hl4 : ya_le G3 G4 := by rw [← hG4]; exact ya_le.nH hN3
  have hN4 : G4.1 = N + 6 := by rw [← hG4]; rfl
  have ho4 := ho3.up hl4
  have hn4 : ya_ob_ G4 (N + 5) 6 := by rw [← hG4]; exact ya_ob_.new
  refine ya_dup rfl dX2_init_19 ?_
  refine ya_callINv (S := [.ref (X.2.1 + (N + 5)), .ref (X.2.1 + a)]) (c_X6_init (a := (N + 5)) hn4 hN4) m_X6_init 4 rfl rfl ⟨Nat.le_of_ble_eq_true rfl, Nat.le_of_ble_eq_true rfl⟩ (Nat.le_of_ble_eq_true rfl) ⟨Nat.le_of_ble_eq_true rfl, Nat.le_of_ble_eq_true rfl⟩ (by show (iG_X6_init (N + 5) _ _).1 = _; rw [(iL_X6_init hN4).2, hN4]) dX2_init_20 rfl ?_
  generalize hG5 : iG_X6_init (N + 5) (N + 6) G4 = G5
  have hl5 : ya_le G4 G5 := by rw [← hG5]; exact (iL_X6_init hN4).1
  have hN5 : G5.1 = N + 10 := by rw [← hG5, (iL_X6_init hN4).2]
  have ho5 := ho4.up hl5
  refine ya_putF fo_X2_19 ho5.1 ho5.2 (.object "YearAgo$Sellers") pg_X2_4 rfl rfl rfl dX2_init_23 ?_
  generalize hG6 : ya_sR G5 a 4 (some (N + 5)) = G6
  have hl6 : ya_le G5 G6 := by rw [← hG6]; exact ya_le.sR
  have hN6 : G6.1 = N + 10 := by rw [← hG6]; exact hN5
  have ho6 := ho5.up hl6
  refine ya_aload_n 0 rfl dX2_init_26 ?_
  refine ya_newO (q := (N + 10)) mk_X2_23 hN6 (Nat.le_of_ble_eq_true rfl) (Nat.le_of_ble_eq_true rfl) dX2_init_27 ?_
  generalize hG7 : ya_nH (N + 10) G6 (1, 0) = G7
  have hl7 : ya_le G6 G7 := by rw [← hG7]; exact ya_le.nH hN6
  have hN7 : G7.1 = N + 11 := by rw [← hG7]; rfl
  have ho7 := ho6.up hl7
  have hn7 : ya_ob_ G7 (N + 10) 1 := by rw [← hG7]; exact ya_ob_.new
  refine ya_dup rfl dX2_init_30 ?_
  refine ya_callINv (S := [.ref (X.2.1 + (N + 10)), .ref (X.2.1 + a)]) (c_X1_init (a := (N + 10)) hn7 hN7) m_X1_init 5 rfl rfl ⟨Nat.le_of_ble_eq_true rfl, Nat.le_of_ble_eq_true rfl⟩ (Nat.le_of_ble_eq_true rfl) ⟨Nat.le_of_ble_eq_true rfl, Nat.le_of_ble_eq_true rfl⟩ (by show (iG_X1_init (N + 10) _ _).1 = _; rw [(iL_X1_init hN7).2, hN7]) dX2_init_31 rfl ?_
  generalize hG8 : iG_X1_init (N + 10) (N + 11) G7 = G8
  have hl8 : ya_le G7 G8 := by rw [← hG8]; exact (iL_X1_init hN7).1
  have hN8 : G8.1 = N + 17 := by rw [← hG8, (iL_X1_init hN7).2]
  have ho8 := ho7.up hl8
  refine ya_putF fo_X2_26 ho8.1 ho8.2 (.object "YearAgo$Buyers") pg_X2_5 rfl rfl rfl dX2_init_34 ?_
  generalize hG9 : ya_sR G8 a 5 (some (N + 10)) = G9
  have hl9 : ya_le G8 G9 := by rw [← hG9]; exact ya_le.sR
  have hN9 : G9.1 = N + 17 := by rw [← hG9]; exact hN8
  have ho9 := ho8.up hl9
  exact ya_vret rfl rfl rfl rfl rfl (Nat.le_of_ble_eq_true rfl) dX2_init_37
def iG_X9_init (a N : Nat) (G : ya_G) : ya_G := G
def iD_X9_init (a N : Nat) (d : ya_D) : ya_D := d
set_option maxRecDepth 20000 in
theorem iL_X9_init {a N : Nat} {G : ya_G} (hN : G.1 = N) : ya_le G (iG_X9_init a N G) ∧ (iG_X9_init a N G).1 = N + 0 := by
  unfold iG_X9_init

  exact ⟨ya_le.rf, hN⟩
theorem iR_X9_init {a N : Nat} {G : ya_G} (b : Nat) (hb : b < N) (hba : b ≠ a) (k : Nat) : (iG_X9_init a N G).2.2 b k = G.2.2 b k := by
  unfold iG_X9_init

  rfl
abbrev Y_X9_init : ya_Y := (cX9_init, RX9, 1, none, "<init>", { frames := 1, cells := 0, slots := 0, locals := 20 })
theorem m_X9_init : ya_mI yX9_init Y_X9_init 0 := ⟨⟨⟨by decide +kernel, by decide +kernel, by decide +kernel⟩, (ya_in 110 (by decide +kernel) (by decide +kernel)), (ya_in 321 (by decide +kernel) (by decide +kernel))⟩, (ya_in 320 (by decide +kernel) (by decide +kernel)), rfl, rfl⟩
set_option maxHeartbeats 4000000 in
set_option maxRecDepth 20000 in
theorem c_X9_init {X : ya_X} {G : ya_G} {a N : Nat} {d : ya_D} (ho : ya_ob_ G a 9) (hN : G.1 = N) : ya_Ct X yX9_init Y_X9_init [.ref (X.2.1 + a)] G d (none, iG_X9_init a N G, iD_X9_init a N d) := by
  refine ya_ct (by decide +kernel) rfl rfl (Nat.le_of_ble_eq_true rfl) ?_
  show ya_E X Y_X9_init (ya_M X (none, iG_X9_init a N G, iD_X9_init a N d) 0 0) 0 [(0, .ref (X.2.1 + a))] [] G d 0 0
  unfold iG_X9_init iD_X9_init
  refine ya_aload_n 0 rfl dX9_init_0 ?_
  refine ya_obj ml_X9_1 wm_ob1 wm_ob2 (by decide) (Nat.le_of_ble_eq_true rfl) dX9_init_1 ?_
  exact ya_vret rfl rfl rfl rfl rfl (Nat.le_of_ble_eq_true rfl) dX9_init_4
def iG_X3_init (a N : Nat) (G : ya_G) : ya_G := ya_sR (ya_nH (N + 19) (ya_sR (iG_X9_init (N + 18) (N + 19) (ya_nH (N + 18) (ya_sR (iG_X2_init (N + 0) (N + 1) (ya_nH (N + 0) (G) (2, 0))) a 0 (some (N + 0))) (9, 0))) a 1 (some (N + 18))) (20, 6)) a 2 (some (N + 19))
def iD_X3_init (a N : Nat) (d : ya_D) : ya_D := ya_sI (ya_sI (ya_nE (N + 19) (iD_X9_init (N + 18) (N + 19) (ya_nE (N + 18) (iD_X2_init (N + 0) (N + 1) (ya_nE (N + 0) (d)))))) a 4 0) a 5 (-1)
set_option maxRecDepth 20000 in
theorem iL_X3_init {a N : Nat} {G : ya_G} (hN : G.1 = N) : ya_le G (iG_X3_init a N G) ∧ (iG_X3_init a N G).1 = N + 20 := by
  unfold iG_X3_init
  generalize hG1 : ya_nH (N + 0) G (2, 0) = G1
  have hl1 : ya_le G G1 := by rw [← hG1]; exact ya_le.nH hN
  have hN1 : G1.1 = N + 1 := by rw [← hG1]; rfl
  generalize hG2 : iG_X2_init (N + 0) (N + 1) G1 = G2
  have hl2 : ya_le G1 G2 := by rw [← hG2]; exact (iL_X2_init hN1).1
  have hN2 : G2.1 = N + 18 := by rw [← hG2, (iL_X2_init hN1).2]
  generalize hG3 : ya_sR G2 a 0 (some (N + 0)) = G3
  have hl3 : ya_le G2 G3 := by rw [← hG3]; exact ya_le.sR
  have hN3 : G3.1 = N + 18 := by rw [← hG3]; exact hN2
  generalize hG4 : ya_nH (N + 18) G3 (9, 0) = G4
  have hl4 : ya_le G3 G4 := by rw [← hG4]; exact ya_le.nH hN3
  have hN4 : G4.1 = N + 19 := by rw [← hG4]; rfl
  generalize hG5 : iG_X9_init (N + 18) (N + 19) G4 = G5
  have hl5 : ya_le G4 G5 := by rw [← hG5]; exact (iL_X9_init hN4).1
  have hN5 : G5.1 = N + 19 := by rw [← hG5, (iL_X9_init hN4).2]
  generalize hG6 : ya_sR G5 a 1 (some (N + 18)) = G6
  have hl6 : ya_le G5 G6 := by rw [← hG6]; exact ya_le.sR
  have hN6 : G6.1 = N + 19 := by rw [← hG6]; exact hN5
  generalize hG7 : ya_nH (N + 19) G6 (20, 6) = G7
  have hl7 : ya_le G6 G7 := by rw [← hG7]; exact ya_le.nH hN6
  have hN7 : G7.1 = N + 20 := by rw [← hG7]; rfl
  generalize hG8 : ya_sR G7 a 2 (some (N + 19)) = G8
  have hl8 : ya_le G7 G8 := by rw [← hG8]; exact ya_le.sR
  have hN8 : G8.1 = N + 20 := by rw [← hG8]; exact hN7
  exact ⟨hl1.tr (hl2.tr (hl3.tr (hl4.tr (hl5.tr (hl6.tr (hl7.tr (hl8))))))), hN8⟩
theorem iR_X3_init {a N : Nat} {G : ya_G} (b : Nat) (hb : b < N) (hba : b ≠ a) (k : Nat) : (iG_X3_init a N G).2.2 b k = G.2.2 b k := by
  unfold iG_X3_init
  rw [ya_sR_n hba]
  rw [ya_nH_n (by omega)]
  rw [ya_sR_n hba]
  rw [iR_X9_init b (by omega) (by omega) k]
  rw [ya_nH_n (by omega)]
  rw [ya_sR_n hba]
  rw [iR_X2_init b (by omega) (by omega) k]
  rw [ya_nH_n (by omega)]
abbrev Y_X3_init : ya_Y := (cX3_init, RX3, 1, none, "<init>", { frames := 3, cells := 20, slots := 495, locals := 60 })
theorem m_X3_init : ya_mI yX3_init Y_X3_init 0 := ⟨⟨⟨by decide +kernel, by decide +kernel, by decide +kernel⟩, (ya_in 105 (by decide +kernel) (by decide +kernel)), (ya_in 154 (by decide +kernel) (by decide +kernel))⟩, (ya_in 153 (by decide +kernel) (by decide +kernel)), rfl, rfl⟩
set_option maxHeartbeats 4000000 in
set_option maxRecDepth 20000 in
theorem c_X3_init {X : ya_X} {G : ya_G} {a N : Nat} {d : ya_D} (ho : ya_ob_ G a 3) (hN : G.1 = N) : ya_Ct X yX3_init Y_X3_init [.ref (X.2.1 + a)] G d (none, iG_X3_init a N G, iD_X3_init a N d) := by
  refine ya_ct (by decide +kernel) rfl rfl (Nat.le_of_ble_eq_true rfl) ?_
  show ya_E X Y_X3_init (ya_M X (none, iG_X3_init a N G, iD_X3_init a N d) 20 495) 0 [(0, .ref (X.2.1 + a))] [] G d 0 0
  unfold iG_X3_init iD_X3_init
  refine ya_aload_n 0 rfl dX3_init_0 ?_
  refine ya_obj ml_X3_3 wm_ob1 wm_ob2 (by decide) (Nat.le_of_ble_eq_true rfl) dX3_init_1 ?_
  refine ya_aload_n 0 rfl dX3_init_4 ?_
  refine ya_newO (q := (N + 0)) mk_X3_9 hN (Nat.le_of_ble_eq_true rfl) (Nat.le_of_ble_eq_true rfl) dX3_init_5 ?_
  generalize hG1 : ya_nH (N + 0) G (2, 0) = G1
  have hl1 : ya_le G G1 := by rw [← hG1]; exact ya_le.nH hN
  have hN1 : G1.1 = N + 1 := by rw [← hG1]; rfl
  have ho1 := ho.up hl1
  have hn1 : ya_ob_ G1 (N + 0) 2 := by rw [← hG1]; exact ya_ob_.new
  refine ya_dup rfl dX3_init_8 ?_
  refine ya_callINv (S := [.ref (X.2.1 + (N + 0)), .ref (X.2.1 + a)]) (c_X2_init (a := (N + 0)) hn1 hN1) m_X2_init 2 rfl rfl ⟨Nat.le_of_ble_eq_true rfl, Nat.le_of_ble_eq_true rfl⟩ (Nat.le_of_ble_eq_true rfl) ⟨Nat.le_of_ble_eq_true rfl, Nat.le_of_ble_eq_true rfl⟩ (by show (iG_X2_init (N + 0) _ _).1 = _; rw [(iL_X2_init hN1).2, hN1]) dX3_init_9 rfl ?_
  generalize hG2 : iG_X2_init (N + 0) (N + 1) G1 = G2
  have hl2 : ya_le G1 G2 := by rw [← hG2]; exact (iL_X2_init hN1).1
  have hN2 : G2.1 = N + 18 := by rw [← hG2, (iL_X2_init hN1).2]
  have ho2 := ho1.up hl2
  refine ya_putF fo_X3_12 ho2.1 ho2.2 (.object "YearAgo$Market") pg_X3_0 rfl rfl rfl dX3_init_12 ?_
  generalize hG3 : ya_sR G2 a 0 (some (N + 0)) = G3
  have hl3 : ya_le G2 G3 := by rw [← hG3]; exact ya_le.sR
  have hN3 : G3.1 = N + 18 := by rw [← hG3]; exact hN2
  have ho3 := ho2.up hl3
  refine ya_aload_n 0 rfl dX3_init_15 ?_
  refine ya_newO (q := (N + 18)) mk_X3_18 hN3 (Nat.le_of_ble_eq_true rfl) (Nat.le_of_ble_eq_true rfl) dX3_init_16 ?_
  generalize hG4 : ya_nH (N + 18) G3 (9, 0) = G4
  have hl4 : ya_le G3 G4 := by rw [← hG4]; exact ya_le.nH hN3
  have hN4 : G4.1 = N + 19 := by rw [← hG4]; rfl
  have ho4 := ho3.up hl4
  have hn4 : ya_ob_ G4 (N + 18) 9 := by rw [← hG4]; exact ya_ob_.new
  refine ya_dup rfl dX3_init_19 ?_
  refine ya_callINv (S := [.ref (X.2.1 + (N + 18)), .ref (X.2.1 + a)]) (c_X9_init (a := (N + 18)) hn4 hN4) m_X9_init 6 rfl rfl ⟨Nat.le_of_ble_eq_true rfl, Nat.le_of_ble_eq_true rfl⟩ (Nat.le_of_ble_eq_true rfl) ⟨Nat.le_of_ble_eq_true rfl, Nat.le_of_ble_eq_true rfl⟩ (by show (iG_X9_init (N + 18) _ _).1 = _; rw [(iL_X9_init hN4).2, hN4]) dX3_init_20 rfl ?_
  generalize hG5 : iG_X9_init (N + 18) (N + 19) G4 = G5
  have hl5 : ya_le G4 G5 := by rw [← hG5]; exact (iL_X9_init hN4).1
  have hN5 : G5.1 = N + 19 := by rw [← hG5, (iL_X9_init hN4).2]
  have ho5 := ho4.up hl5
  refine ya_putF fo_X3_21 ho5.1 ho5.2 (.object "YearAgo$Tokens") pg_X3_1 rfl rfl rfl dX3_init_23 ?_
  generalize hG6 : ya_sR G5 a 1 (some (N + 18)) = G6
  have hl6 : ya_le G5 G6 := by rw [← hG6]; exact ya_le.sR
  have hN6 : G6.1 = N + 19 := by rw [← hG6]; exact hN5
  have ho6 := ho5.up hl6
  refine ya_aload_n 0 rfl dX3_init_26 ?_
  refine ya_bipush 6 (by decide) dX3_init_27 ?_
  refine ya_newA (q := (N + 19)) (ka := 20) (N := 6) (by decide) (by decide) rfl wa_20 rfl hN6 (by decide) (by decide) (Nat.le_of_ble_eq_true rfl) (Nat.le_of_ble_eq_true rfl) (Nat.le_of_ble_eq_true rfl) dX3_init_29 ?_
  generalize hG7 : ya_nH (N + 19) G6 (20, 6) = G7
  have hl7 : ya_le G6 G7 := by rw [← hG7]; exact ya_le.nH hN6
  have hN7 : G7.1 = N + 20 := by rw [← hG7]; rfl
  have ho7 := ho6.up hl7
  have hs7 : G7.2.1 (N + 19) = (20, 6) := by rw [← hG7]; exact if_pos rfl
  refine ya_putF fo_X3_25 ho7.1 ho7.2 (.array .int) pg_X3_2 rfl rfl rfl dX3_init_31 ?_
  generalize hG8 : ya_sR G7 a 2 (some (N + 19)) = G8
  have hl8 : ya_le G7 G8 := by rw [← hG8]; exact ya_le.sR
  have hN8 : G8.1 = N + 20 := by rw [← hG8]; exact hN7
  have ho8 := ho7.up hl8
  refine ya_aload_n 0 rfl dX3_init_34 ?_
  refine ya_iconst 0 (by decide) dX3_init_35 ?_
  refine ya_putI fo_X3_29 ho8.1 ho8.2 .int pf_X3_4 rfl rfl dX3_init_36 ?_
  refine ya_aload_n 0 rfl dX3_init_39 ?_
  refine ya_iconst (-1) (by decide) dX3_init_40 ?_
  refine ya_putI fo_X3_33 ho8.1 ho8.2 .int pf_X3_5 rfl rfl dX3_init_41 ?_
  exact ya_vret rfl rfl rfl rfl rfl (Nat.le_of_ble_eq_true rfl) dX3_init_44
def iG_X10_init (a N : Nat) (G : ya_G) : ya_G := ya_sR (ya_nH (N + 13) (ya_sR (ya_nH (N + 12) (ya_sR (ya_nH (N + 11) (ya_sR (ya_nH (N + 10) (ya_sR (ya_nH (N + 9) (ya_sR (ya_nH (N + 8) (ya_sR (ya_nH (N + 7) (ya_sR (ya_nH (N + 6) (ya_sR (ya_nH (N + 5) (ya_sR (ya_nH (N + 4) (ya_sR (ya_nH (N + 3) (ya_sR (ya_nH (N + 2) (ya_sR (ya_nH (N + 1) (ya_sR (ya_nH (N + 0) (G) (20, 100)) a 0 (some (N + 0))) (20, 100)) a 1 (some (N + 1))) (20, 100)) a 2 (some (N + 2))) (20, 100)) a 3 (some (N + 3))) (20, 100)) a 4 (some (N + 4))) (20, 100)) a 5 (some (N + 5))) (20, 100)) a 6 (some (N + 6))) (20, 5)) a 7 (some (N + 7))) (20, 5)) a 8 (some (N + 8))) (20, 5)) a 9 (some (N + 9))) (20, 5)) a 10 (some (N + 10))) (20, 7)) a 11 (some (N + 11))) (20, 7)) a 12 (some (N + 12))) (20, 7)) a 13 (some (N + 13))
def iD_X10_init (a N : Nat) (d : ya_D) : ya_D := ya_nE (N + 13) (ya_nE (N + 12) (ya_nE (N + 11) (ya_nE (N + 10) (ya_nE (N + 9) (ya_nE (N + 8) (ya_nE (N + 7) (ya_nE (N + 6) (ya_nE (N + 5) (ya_nE (N + 4) (ya_nE (N + 3) (ya_nE (N + 2) (ya_nE (N + 1) (ya_nE (N + 0) (d))))))))))))))
set_option maxRecDepth 20000 in
theorem iL_X10_init {a N : Nat} {G : ya_G} (hN : G.1 = N) : ya_le G (iG_X10_init a N G) ∧ (iG_X10_init a N G).1 = N + 14 := by
  unfold iG_X10_init
  generalize hG1 : ya_nH (N + 0) G (20, 100) = G1
  have hl1 : ya_le G G1 := by rw [← hG1]; exact ya_le.nH hN
  have hN1 : G1.1 = N + 1 := by rw [← hG1]; rfl
  generalize hG2 : ya_sR G1 a 0 (some (N + 0)) = G2
  have hl2 : ya_le G1 G2 := by rw [← hG2]; exact ya_le.sR
  have hN2 : G2.1 = N + 1 := by rw [← hG2]; exact hN1
  generalize hG3 : ya_nH (N + 1) G2 (20, 100) = G3
  have hl3 : ya_le G2 G3 := by rw [← hG3]; exact ya_le.nH hN2
  have hN3 : G3.1 = N + 2 := by rw [← hG3]; rfl
  generalize hG4 : ya_sR G3 a 1 (some (N + 1)) = G4
  have hl4 : ya_le G3 G4 := by rw [← hG4]; exact ya_le.sR
  have hN4 : G4.1 = N + 2 := by rw [← hG4]; exact hN3
  generalize hG5 : ya_nH (N + 2) G4 (20, 100) = G5
  have hl5 : ya_le G4 G5 := by rw [← hG5]; exact ya_le.nH hN4
  have hN5 : G5.1 = N + 3 := by rw [← hG5]; rfl
  generalize hG6 : ya_sR G5 a 2 (some (N + 2)) = G6
  have hl6 : ya_le G5 G6 := by rw [← hG6]; exact ya_le.sR
  have hN6 : G6.1 = N + 3 := by rw [← hG6]; exact hN5
  generalize hG7 : ya_nH (N + 3) G6 (20, 100) = G7
  have hl7 : ya_le G6 G7 := by rw [← hG7]; exact ya_le.nH hN6
  have hN7 : G7.1 = N + 4 := by rw [← hG7]; rfl
  generalize hG8 : ya_sR G7 a 3 (some (N + 3)) = G8
  have hl8 : ya_le G7 G8 := by rw [← hG8]; exact ya_le.sR
  have hN8 : G8.1 = N + 4 := by rw [← hG8]; exact hN7
  generalize hG9 : ya_nH (N + 4) G8 (20, 100) = G9
  have hl9 : ya_le G8 G9 := by rw [← hG9]; exact ya_le.nH hN8
  have hN9 : G9.1 = N + 5 := by rw [← hG9]; rfl
  generalize hG10 : ya_sR G9 a 4 (some (N + 4)) = G10
  have hl10 : ya_le G9 G10 := by rw [← hG10]; exact ya_le.sR
  have hN10 : G10.1 = N + 5 := by rw [← hG10]; exact hN9
  generalize hG11 : ya_nH (N + 5) G10 (20, 100) = G11
  have hl11 : ya_le G10 G11 := by rw [← hG11]; exact ya_le.nH hN10
  have hN11 : G11.1 = N + 6 := by rw [← hG11]; rfl
  generalize hG12 : ya_sR G11 a 5 (some (N + 5)) = G12
  have hl12 : ya_le G11 G12 := by rw [← hG12]; exact ya_le.sR
  have hN12 : G12.1 = N + 6 := by rw [← hG12]; exact hN11
  generalize hG13 : ya_nH (N + 6) G12 (20, 100) = G13
  have hl13 : ya_le G12 G13 := by rw [← hG13]; exact ya_le.nH hN12
  have hN13 : G13.1 = N + 7 := by rw [← hG13]; rfl
  generalize hG14 : ya_sR G13 a 6 (some (N + 6)) = G14
  have hl14 : ya_le G13 G14 := by rw [← hG14]; exact ya_le.sR
  have hN14 : G14.1 = N + 7 := by rw [← hG14]; exact hN13
  generalize hG15 : ya_nH (N + 7) G14 (20, 5) = G15
  have hl15 : ya_le G14 G15 := by rw [← hG15]; exact ya_le.nH hN14
  have hN15 : G15.1 = N + 8 := by rw [← hG15]; rfl
  generalize hG16 : ya_sR G15 a 7 (some (N + 7)) = G16
  have hl16 : ya_le G15 G16 := by rw [← hG16]; exact ya_le.sR
  have hN16 : G16.1 = N + 8 := by rw [← hG16]; exact hN15
  generalize hG17 : ya_nH (N + 8) G16 (20, 5) = G17
  have hl17 : ya_le G16 G17 := by rw [← hG17]; exact ya_le.nH hN16
  have hN17 : G17.1 = N + 9 := by rw [← hG17]; rfl
  generalize hG18 : ya_sR G17 a 8 (some (N + 8)) = G18
  have hl18 : ya_le G17 G18 := by rw [← hG18]; exact ya_le.sR
  have hN18 : G18.1 = N + 9 := by rw [← hG18]; exact hN17
  generalize hG19 : ya_nH (N + 9) G18 (20, 5) = G19
  have hl19 : ya_le G18 G19 := by rw [← hG19]; exact ya_le.nH hN18
  have hN19 : G19.1 = N + 10 := by rw [← hG19]; rfl
  generalize hG20 : ya_sR G19 a 9 (some (N + 9)) = G20
  have hl20 : ya_le G19 G20 := by rw [← hG20]; exact ya_le.sR
  have hN20 : G20.1 = N + 10 := by rw [← hG20]; exact hN19
  generalize hG21 : ya_nH (N + 10) G20 (20, 5) = G21
  have hl21 : ya_le G20 G21 := by rw [← hG21]; exact ya_le.nH hN20
  have hN21 : G21.1 = N + 11 := by rw [← hG21]; rfl
  generalize hG22 : ya_sR G21 a 10 (some (N + 10)) = G22
  have hl22 : ya_le G21 G22 := by rw [← hG22]; exact ya_le.sR
  have hN22 : G22.1 = N + 11 := by rw [← hG22]; exact hN21
  generalize hG23 : ya_nH (N + 11) G22 (20, 7) = G23
  have hl23 : ya_le G22 G23 := by rw [← hG23]; exact ya_le.nH hN22
  have hN23 : G23.1 = N + 12 := by rw [← hG23]; rfl
  generalize hG24 : ya_sR G23 a 11 (some (N + 11)) = G24
  have hl24 : ya_le G23 G24 := by rw [← hG24]; exact ya_le.sR
  have hN24 : G24.1 = N + 12 := by rw [← hG24]; exact hN23
  generalize hG25 : ya_nH (N + 12) G24 (20, 7) = G25
  have hl25 : ya_le G24 G25 := by rw [← hG25]; exact ya_le.nH hN24
  have hN25 : G25.1 = N + 13 := by rw [← hG25]; rfl
  generalize hG26 : ya_sR G25 a 12 (some (N + 12)) = G26
  have hl26 : ya_le G25 G26 := by rw [← hG26]; exact ya_le.sR
  have hN26 : G26.1 = N + 13 := by rw [← hG26]; exact hN25
  generalize hG27 : ya_nH (N + 13) G26 (20, 7) = G27
  have hl27 : ya_le G26 G27 := by rw [← hG27]; exact ya_le.nH hN26
  have hN27 : G27.1 = N + 14 := by rw [← hG27]; rfl
  generalize hG28 : ya_sR G27 a 13 (some (N + 13)) = G28
  have hl28 : ya_le G27 G28 := by rw [← hG28]; exact ya_le.sR
  have hN28 : G28.1 = N + 14 := by rw [← hG28]; exact hN27
  exact ⟨hl1.tr (hl2.tr (hl3.tr (hl4.tr (hl5.tr (hl6.tr (hl7.tr (hl8.tr (hl9.tr (hl10.tr (hl11.tr (hl12.tr (hl13.tr (hl14.tr (hl15.tr (hl16.tr (hl17.tr (hl18.tr (hl19.tr (hl20.tr (hl21.tr (hl22.tr (hl23.tr (hl24.tr (hl25.tr (hl26.tr (hl27.tr (hl28))))))))))))))))))))))))))), hN28⟩
theorem iR_X10_init {a N : Nat} {G : ya_G} (b : Nat) (hb : b < N) (hba : b ≠ a) (k : Nat) : (iG_X10_init a N G).2.2 b k = G.2.2 b k := by
  unfold iG_X10_init
  rw [ya_sR_n hba]
  rw [ya_nH_n (by omega)]
  rw [ya_sR_n hba]
  rw [ya_nH_n (by omega)]
  rw [ya_sR_n hba]
  rw [ya_nH_n (by omega)]
  rw [ya_sR_n hba]
  rw [ya_nH_n (by omega)]
  rw [ya_sR_n hba]
  rw [ya_nH_n (by omega)]
  rw [ya_sR_n hba]
  rw [ya_nH_n (by omega)]
  rw [ya_sR_n hba]
  rw [ya_nH_n (by omega)]
  rw [ya_sR_n hba]
  rw [ya_nH_n (by omega)]
  rw [ya_sR_n hba]
  rw [ya_nH_n (by omega)]
  rw [ya_sR_n hba]
  rw [ya_nH_n (by omega)]
  rw [ya_sR_n hba]
  rw [ya_nH_n (by omega)]
  rw [ya_sR_n hba]
  rw [ya_nH_n (by omega)]
  rw [ya_sR_n hba]
  rw [ya_nH_n (by omega)]
  rw [ya_sR_n hba]
  rw [ya_nH_n (by omega)]
abbrev Y_X10_init : ya_Y := (cX10_init, RX10, 1, none, "<init>", { frames := 1, cells := 14, slots := 741, locals := 20 })
theorem m_X10_init : ya_mI yX10_init Y_X10_init 0 := ⟨⟨⟨by decide +kernel, by decide +kernel, by decide +kernel⟩, (ya_in 111 (by decide +kernel) (by decide +kernel)), (ya_in 367 (by decide +kernel) (by decide +kernel))⟩, (ya_in 366 (by decide +kernel) (by decide +kernel)), rfl, rfl⟩
set_option maxHeartbeats 4000000 in
set_option maxRecDepth 20000 in
theorem c_X10_init {X : ya_X} {G : ya_G} {a N : Nat} {d : ya_D} (ho : ya_ob_ G a 10) (hN : G.1 = N) : ya_Ct X yX10_init Y_X10_init [.ref (X.2.1 + a)] G d (none, iG_X10_init a N G, iD_X10_init a N d) := by
  refine ya_ct (by decide +kernel) rfl rfl (Nat.le_of_ble_eq_true rfl) ?_
  show ya_E X Y_X10_init (ya_M X (none, iG_X10_init a N G, iD_X10_init a N d) 14 741) 0 [(0, .ref (X.2.1 + a))] [] G d 0 0
  unfold iG_X10_init iD_X10_init
  refine ya_aload_n 0 rfl dX10_init_0 ?_
  refine ya_obj ml_X10_3 wm_ob1 wm_ob2 (by decide) (Nat.le_of_ble_eq_true rfl) dX10_init_1 ?_
  refine ya_aload_n 0 rfl dX10_init_4 ?_
  refine ya_bipush 100 (by decide) dX10_init_5 ?_
  refine ya_newA (q := (N + 0)) (ka := 20) (N := 100) (by decide) (by decide) rfl wa_20 rfl hN (by decide) (by decide) (Nat.le_of_ble_eq_true rfl) (Nat.le_of_ble_eq_true rfl) (Nat.le_of_ble_eq_true rfl) dX10_init_7 ?_
  generalize hG1 : ya_nH (N + 0) G (20, 100) = G1
  have hl1 : ya_le G G1 := by rw [← hG1]; exact ya_le.nH hN
  have hN1 : G1.1 = N + 1 := by rw [← hG1]; rfl
  have ho1 := ho.up hl1
  have hs1 : G1.2.1 (N + 0) = (20, 100) := by rw [← hG1]; exact if_pos rfl
  refine ya_putF fo_X10_9 ho1.1 ho1.2 (.array .int) pg_X10_0 rfl rfl rfl dX10_init_9 ?_
  generalize hG2 : ya_sR G1 a 0 (some (N + 0)) = G2
  have hl2 : ya_le G1 G2 := by rw [← hG2]; exact ya_le.sR
  have hN2 : G2.1 = N + 1 := by rw [← hG2]; exact hN1
  have ho2 := ho1.up hl2
  refine ya_aload_n 0 rfl dX10_init_12 ?_
  refine ya_bipush 100 (by decide) dX10_init_13 ?_
  refine ya_newA (q := (N + 1)) (ka := 20) (N := 100) (by decide) (by decide) rfl wa_20 rfl hN2 (by decide) (by decide) (Nat.le_of_ble_eq_true rfl) (Nat.le_of_ble_eq_true rfl) (Nat.le_of_ble_eq_true rfl) dX10_init_15 ?_
  generalize hG3 : ya_nH (N + 1) G2 (20, 100) = G3
  have hl3 : ya_le G2 G3 := by rw [← hG3]; exact ya_le.nH hN2
  have hN3 : G3.1 = N + 2 := by rw [← hG3]; rfl
  have ho3 := ho2.up hl3
  have hs3 : G3.2.1 (N + 1) = (20, 100) := by rw [← hG3]; exact if_pos rfl
  refine ya_putF fo_X10_15 ho3.1 ho3.2 (.array .int) pg_X10_1 rfl rfl rfl dX10_init_17 ?_
  generalize hG4 : ya_sR G3 a 1 (some (N + 1)) = G4
  have hl4 : ya_le G3 G4 := by rw [← hG4]; exact ya_le.sR
  have hN4 : G4.1 = N + 2 := by rw [← hG4]; exact hN3
  have ho4 := ho3.up hl4
  refine ya_aload_n 0 rfl dX10_init_20 ?_
  refine ya_bipush 100 (by decide) dX10_init_21 ?_
  refine ya_newA (q := (N + 2)) (ka := 20) (N := 100) (by decide) (by decide) rfl wa_20 rfl hN4 (by decide) (by decide) (Nat.le_of_ble_eq_true rfl) (Nat.le_of_ble_eq_true rfl) (Nat.le_of_ble_eq_true rfl) dX10_init_23 ?_
  generalize hG5 : ya_nH (N + 2) G4 (20, 100) = G5
  have hl5 : ya_le G4 G5 := by rw [← hG5]; exact ya_le.nH hN4
  have hN5 : G5.1 = N + 3 := by rw [← hG5]; rfl
  have ho5 := ho4.up hl5
  have hs5 : G5.2.1 (N + 2) = (20, 100) := by rw [← hG5]; exact if_pos rfl
  refine ya_putF fo_X10_18 ho5.1 ho5.2 (.array .int) pg_X10_2 rfl rfl rfl dX10_init_25 ?_
  generalize hG6 : ya_sR G5 a 2 (some (N + 2)) = G6
  have hl6 : ya_le G5 G6 := by rw [← hG6]; exact ya_le.sR
  have hN6 : G6.1 = N + 3 := by rw [← hG6]; exact hN5
  have ho6 := ho5.up hl6
  refine ya_aload_n 0 rfl dX10_init_28 ?_
  refine ya_bipush 100 (by decide) dX10_init_29 ?_
  refine ya_newA (q := (N + 3)) (ka := 20) (N := 100) (by decide) (by decide) rfl wa_20 rfl hN6 (by decide) (by decide) (Nat.le_of_ble_eq_true rfl) (Nat.le_of_ble_eq_true rfl) (Nat.le_of_ble_eq_true rfl) dX10_init_31 ?_
  generalize hG7 : ya_nH (N + 3) G6 (20, 100) = G7
  have hl7 : ya_le G6 G7 := by rw [← hG7]; exact ya_le.nH hN6
  have hN7 : G7.1 = N + 4 := by rw [← hG7]; rfl
  have ho7 := ho6.up hl7
  have hs7 : G7.2.1 (N + 3) = (20, 100) := by rw [← hG7]; exact if_pos rfl
  refine ya_putF fo_X10_21 ho7.1 ho7.2 (.array .int) pg_X10_3 rfl rfl rfl dX10_init_33 ?_
  generalize hG8 : ya_sR G7 a 3 (some (N + 3)) = G8
  have hl8 : ya_le G7 G8 := by rw [← hG8]; exact ya_le.sR
  have hN8 : G8.1 = N + 4 := by rw [← hG8]; exact hN7
  have ho8 := ho7.up hl8
  refine ya_aload_n 0 rfl dX10_init_36 ?_
  refine ya_bipush 100 (by decide) dX10_init_37 ?_
  refine ya_newA (q := (N + 4)) (ka := 20) (N := 100) (by decide) (by decide) rfl wa_20 rfl hN8 (by decide) (by decide) (Nat.le_of_ble_eq_true rfl) (Nat.le_of_ble_eq_true rfl) (Nat.le_of_ble_eq_true rfl) dX10_init_39 ?_
  generalize hG9 : ya_nH (N + 4) G8 (20, 100) = G9
  have hl9 : ya_le G8 G9 := by rw [← hG9]; exact ya_le.nH hN8
  have hN9 : G9.1 = N + 5 := by rw [← hG9]; rfl
  have ho9 := ho8.up hl9
  have hs9 : G9.2.1 (N + 4) = (20, 100) := by rw [← hG9]; exact if_pos rfl
  refine ya_putF fo_X10_24 ho9.1 ho9.2 (.array .int) pg_X10_4 rfl rfl rfl dX10_init_41 ?_
  generalize hG10 : ya_sR G9 a 4 (some (N + 4)) = G10
  have hl10 : ya_le G9 G10 := by rw [← hG10]; exact ya_le.sR
  have hN10 : G10.1 = N + 5 := by rw [← hG10]; exact hN9
  have ho10 := ho9.up hl10
  refine ya_aload_n 0 rfl dX10_init_44 ?_
  refine ya_bipush 100 (by decide) dX10_init_45 ?_
  refine ya_newA (q := (N + 5)) (ka := 20) (N := 100) (by decide) (by decide) rfl wa_20 rfl hN10 (by decide) (by decide) (Nat.le_of_ble_eq_true rfl) (Nat.le_of_ble_eq_true rfl) (Nat.le_of_ble_eq_true rfl) dX10_init_47 ?_
  generalize hG11 : ya_nH (N + 5) G10 (20, 100) = G11
  have hl11 : ya_le G10 G11 := by rw [← hG11]; exact ya_le.nH hN10
  have hN11 : G11.1 = N + 6 := by rw [← hG11]; rfl
  have ho11 := ho10.up hl11
  have hs11 : G11.2.1 (N + 5) = (20, 100) := by rw [← hG11]; exact if_pos rfl
  refine ya_putF fo_X10_27 ho11.1 ho11.2 (.array .int) pg_X10_5 rfl rfl rfl dX10_init_49 ?_
  generalize hG12 : ya_sR G11 a 5 (some (N + 5)) = G12
  have hl12 : ya_le G11 G12 := by rw [← hG12]; exact ya_le.sR
  have hN12 : G12.1 = N + 6 := by rw [← hG12]; exact hN11
  have ho12 := ho11.up hl12
  refine ya_aload_n 0 rfl dX10_init_52 ?_
  refine ya_bipush 100 (by decide) dX10_init_53 ?_
  refine ya_newA (q := (N + 6)) (ka := 20) (N := 100) (by decide) (by decide) rfl wa_20 rfl hN12 (by decide) (by decide) (Nat.le_of_ble_eq_true rfl) (Nat.le_of_ble_eq_true rfl) (Nat.le_of_ble_eq_true rfl) dX10_init_55 ?_
  generalize hG13 : ya_nH (N + 6) G12 (20, 100) = G13
  have hl13 : ya_le G12 G13 := by rw [← hG13]; exact ya_le.nH hN12
  have hN13 : G13.1 = N + 7 := by rw [← hG13]; rfl
  have ho13 := ho12.up hl13
  have hs13 : G13.2.1 (N + 6) = (20, 100) := by rw [← hG13]; exact if_pos rfl
  refine ya_putF fo_X10_30 ho13.1 ho13.2 (.array .int) pg_X10_6 rfl rfl rfl dX10_init_57 ?_
  generalize hG14 : ya_sR G13 a 6 (some (N + 6)) = G14
  have hl14 : ya_le G13 G14 := by rw [← hG14]; exact ya_le.sR
  have hN14 : G14.1 = N + 7 := by rw [← hG14]; exact hN13
  have ho14 := ho13.up hl14
  refine ya_aload_n 0 rfl dX10_init_60 ?_
  refine ya_iconst 5 (by decide) dX10_init_61 ?_
  refine ya_newA (q := (N + 7)) (ka := 20) (N := 5) (by decide) (by decide) rfl wa_20 rfl hN14 (by decide) (by decide) (Nat.le_of_ble_eq_true rfl) (Nat.le_of_ble_eq_true rfl) (Nat.le_of_ble_eq_true rfl) dX10_init_62 ?_
  generalize hG15 : ya_nH (N + 7) G14 (20, 5) = G15
  have hl15 : ya_le G14 G15 := by rw [← hG15]; exact ya_le.nH hN14
  have hN15 : G15.1 = N + 8 := by rw [← hG15]; rfl
  have ho15 := ho14.up hl15
  have hs15 : G15.2.1 (N + 7) = (20, 5) := by rw [← hG15]; exact if_pos rfl
  refine ya_putF fo_X10_33 ho15.1 ho15.2 (.array .int) pg_X10_7 rfl rfl rfl dX10_init_64 ?_
  generalize hG16 : ya_sR G15 a 7 (some (N + 7)) = G16
  have hl16 : ya_le G15 G16 := by rw [← hG16]; exact ya_le.sR
  have hN16 : G16.1 = N + 8 := by rw [← hG16]; exact hN15
  have ho16 := ho15.up hl16
  refine ya_aload_n 0 rfl dX10_init_67 ?_
  refine ya_iconst 5 (by decide) dX10_init_68 ?_
  refine ya_newA (q := (N + 8)) (ka := 20) (N := 5) (by decide) (by decide) rfl wa_20 rfl hN16 (by decide) (by decide) (Nat.le_of_ble_eq_true rfl) (Nat.le_of_ble_eq_true rfl) (Nat.le_of_ble_eq_true rfl) dX10_init_69 ?_
  generalize hG17 : ya_nH (N + 8) G16 (20, 5) = G17
  have hl17 : ya_le G16 G17 := by rw [← hG17]; exact ya_le.nH hN16
  have hN17 : G17.1 = N + 9 := by rw [← hG17]; rfl
  have ho17 := ho16.up hl17
  have hs17 : G17.2.1 (N + 8) = (20, 5) := by rw [← hG17]; exact if_pos rfl
  refine ya_putF fo_X10_36 ho17.1 ho17.2 (.array .int) pg_X10_8 rfl rfl rfl dX10_init_71 ?_
  generalize hG18 : ya_sR G17 a 8 (some (N + 8)) = G18
  have hl18 : ya_le G17 G18 := by rw [← hG18]; exact ya_le.sR
  have hN18 : G18.1 = N + 9 := by rw [← hG18]; exact hN17
  have ho18 := ho17.up hl18
  refine ya_aload_n 0 rfl dX10_init_74 ?_
  refine ya_iconst 5 (by decide) dX10_init_75 ?_
  refine ya_newA (q := (N + 9)) (ka := 20) (N := 5) (by decide) (by decide) rfl wa_20 rfl hN18 (by decide) (by decide) (Nat.le_of_ble_eq_true rfl) (Nat.le_of_ble_eq_true rfl) (Nat.le_of_ble_eq_true rfl) dX10_init_76 ?_
  generalize hG19 : ya_nH (N + 9) G18 (20, 5) = G19
  have hl19 : ya_le G18 G19 := by rw [← hG19]; exact ya_le.nH hN18
  have hN19 : G19.1 = N + 10 := by rw [← hG19]; rfl
  have ho19 := ho18.up hl19
  have hs19 : G19.2.1 (N + 9) = (20, 5) := by rw [← hG19]; exact if_pos rfl
  refine ya_putF fo_X10_39 ho19.1 ho19.2 (.array .int) pg_X10_9 rfl rfl rfl dX10_init_78 ?_
  generalize hG20 : ya_sR G19 a 9 (some (N + 9)) = G20
  have hl20 : ya_le G19 G20 := by rw [← hG20]; exact ya_le.sR
  have hN20 : G20.1 = N + 10 := by rw [← hG20]; exact hN19
  have ho20 := ho19.up hl20
  refine ya_aload_n 0 rfl dX10_init_81 ?_
  refine ya_iconst 5 (by decide) dX10_init_82 ?_
  refine ya_newA (q := (N + 10)) (ka := 20) (N := 5) (by decide) (by decide) rfl wa_20 rfl hN20 (by decide) (by decide) (Nat.le_of_ble_eq_true rfl) (Nat.le_of_ble_eq_true rfl) (Nat.le_of_ble_eq_true rfl) dX10_init_83 ?_
  generalize hG21 : ya_nH (N + 10) G20 (20, 5) = G21
  have hl21 : ya_le G20 G21 := by rw [← hG21]; exact ya_le.nH hN20
  have hN21 : G21.1 = N + 11 := by rw [← hG21]; rfl
  have ho21 := ho20.up hl21
  have hs21 : G21.2.1 (N + 10) = (20, 5) := by rw [← hG21]; exact if_pos rfl
  refine ya_putF fo_X10_42 ho21.1 ho21.2 (.array .int) pg_X10_10 rfl rfl rfl dX10_init_85 ?_
  generalize hG22 : ya_sR G21 a 10 (some (N + 10)) = G22
  have hl22 : ya_le G21 G22 := by rw [← hG22]; exact ya_le.sR
  have hN22 : G22.1 = N + 11 := by rw [← hG22]; exact hN21
  have ho22 := ho21.up hl22
  refine ya_aload_n 0 rfl dX10_init_88 ?_
  refine ya_bipush 7 (by decide) dX10_init_89 ?_
  refine ya_newA (q := (N + 11)) (ka := 20) (N := 7) (by decide) (by decide) rfl wa_20 rfl hN22 (by decide) (by decide) (Nat.le_of_ble_eq_true rfl) (Nat.le_of_ble_eq_true rfl) (Nat.le_of_ble_eq_true rfl) dX10_init_91 ?_
  generalize hG23 : ya_nH (N + 11) G22 (20, 7) = G23
  have hl23 : ya_le G22 G23 := by rw [← hG23]; exact ya_le.nH hN22
  have hN23 : G23.1 = N + 12 := by rw [← hG23]; rfl
  have ho23 := ho22.up hl23
  have hs23 : G23.2.1 (N + 11) = (20, 7) := by rw [← hG23]; exact if_pos rfl
  refine ya_putF fo_X10_45 ho23.1 ho23.2 (.array .int) pg_X10_11 rfl rfl rfl dX10_init_93 ?_
  generalize hG24 : ya_sR G23 a 11 (some (N + 11)) = G24
  have hl24 : ya_le G23 G24 := by rw [← hG24]; exact ya_le.sR
  have hN24 : G24.1 = N + 12 := by rw [← hG24]; exact hN23
  have ho24 := ho23.up hl24
  refine ya_aload_n 0 rfl dX10_init_96 ?_
  refine ya_bipush 7 (by decide) dX10_init_97 ?_
  refine ya_newA (q := (N + 12)) (ka := 20) (N := 7) (by decide) (by decide) rfl wa_20 rfl hN24 (by decide) (by decide) (Nat.le_of_ble_eq_true rfl) (Nat.le_of_ble_eq_true rfl) (Nat.le_of_ble_eq_true rfl) dX10_init_99 ?_
  generalize hG25 : ya_nH (N + 12) G24 (20, 7) = G25
  have hl25 : ya_le G24 G25 := by rw [← hG25]; exact ya_le.nH hN24
  have hN25 : G25.1 = N + 13 := by rw [← hG25]; rfl
  have ho25 := ho24.up hl25
  have hs25 : G25.2.1 (N + 12) = (20, 7) := by rw [← hG25]; exact if_pos rfl
  refine ya_putF fo_X10_48 ho25.1 ho25.2 (.array .int) pg_X10_12 rfl rfl rfl dX10_init_101 ?_
  generalize hG26 : ya_sR G25 a 12 (some (N + 12)) = G26
  have hl26 : ya_le G25 G26 := by rw [← hG26]; exact ya_le.sR
  have hN26 : G26.1 = N + 13 := by rw [← hG26]; exact hN25
  have ho26 := ho25.up hl26
  refine ya_aload_n 0 rfl dX10_init_104 ?_
  refine ya_bipush 7 (by decide) dX10_init_105 ?_
  refine ya_newA (q := (N + 13)) (ka := 20) (N := 7) (by decide) (by decide) rfl wa_20 rfl hN26 (by decide) (by decide) (Nat.le_of_ble_eq_true rfl) (Nat.le_of_ble_eq_true rfl) (Nat.le_of_ble_eq_true rfl) dX10_init_107 ?_
  generalize hG27 : ya_nH (N + 13) G26 (20, 7) = G27
  have hl27 : ya_le G26 G27 := by rw [← hG27]; exact ya_le.nH hN26
  have hN27 : G27.1 = N + 14 := by rw [← hG27]; rfl
  have ho27 := ho26.up hl27
  have hs27 : G27.2.1 (N + 13) = (20, 7) := by rw [← hG27]; exact if_pos rfl
  refine ya_putF fo_X10_51 ho27.1 ho27.2 (.array .int) pg_X10_13 rfl rfl rfl dX10_init_109 ?_
  generalize hG28 : ya_sR G27 a 13 (some (N + 13)) = G28
  have hl28 : ya_le G27 G28 := by rw [← hG28]; exact ya_le.sR
  have hN28 : G28.1 = N + 14 := by rw [← hG28]; exact hN27
  have ho28 := ho27.up hl28
  exact ya_vret rfl rfl rfl rfl rfl (Nat.le_of_ble_eq_true rfl) dX10_init_112
def iG_X5_init (a N : Nat) (G : ya_G) : ya_G := ya_sR (ya_nH (N + 5) (ya_sR (ya_nH (N + 4) (ya_sR (ya_nH (N + 3) (ya_sR (ya_nH (N + 2) (ya_sR (ya_nH (N + 1) (ya_sR (ya_nH (N + 0) (G) (20, 20)) a 0 (some (N + 0))) (20, 20)) a 1 (some (N + 1))) (20, 20)) a 2 (some (N + 2))) (20, 20)) a 3 (some (N + 3))) (20, 20)) a 4 (some (N + 4))) (20, 20)) a 5 (some (N + 5))
def iD_X5_init (a N : Nat) (d : ya_D) : ya_D := ya_nE (N + 5) (ya_nE (N + 4) (ya_nE (N + 3) (ya_nE (N + 2) (ya_nE (N + 1) (ya_nE (N + 0) (d))))))
set_option maxRecDepth 20000 in
theorem iL_X5_init {a N : Nat} {G : ya_G} (hN : G.1 = N) : ya_le G (iG_X5_init a N G) ∧ (iG_X5_init a N G).1 = N + 6 := by
  unfold iG_X5_init
  generalize hG1 : ya_nH (N + 0) G (20, 20) = G1
  have hl1 : ya_le G G1 := by rw [← hG1]; exact ya_le.nH hN
  have hN1 : G1.1 = N + 1 := by rw [← hG1]; rfl
  generalize hG2 : ya_sR G1 a 0 (some (N + 0)) = G2
  have hl2 : ya_le G1 G2 := by rw [← hG2]; exact ya_le.sR
  have hN2 : G2.1 = N + 1 := by rw [← hG2]; exact hN1
  generalize hG3 : ya_nH (N + 1) G2 (20, 20) = G3
  have hl3 : ya_le G2 G3 := by rw [← hG3]; exact ya_le.nH hN2
  have hN3 : G3.1 = N + 2 := by rw [← hG3]; rfl
  generalize hG4 : ya_sR G3 a 1 (some (N + 1)) = G4
  have hl4 : ya_le G3 G4 := by rw [← hG4]; exact ya_le.sR
  have hN4 : G4.1 = N + 2 := by rw [← hG4]; exact hN3
  generalize hG5 : ya_nH (N + 2) G4 (20, 20) = G5
  have hl5 : ya_le G4 G5 := by rw [← hG5]; exact ya_le.nH hN4
  have hN5 : G5.1 = N + 3 := by rw [← hG5]; rfl
  generalize hG6 : ya_sR G5 a 2 (some (N + 2)) = G6
  have hl6 : ya_le G5 G6 := by rw [← hG6]; exact ya_le.sR
  have hN6 : G6.1 = N + 3 := by rw [← hG6]; exact hN5
  generalize hG7 : ya_nH (N + 3) G6 (20, 20) = G7
  have hl7 : ya_le G6 G7 := by rw [← hG7]; exact ya_le.nH hN6
  have hN7 : G7.1 = N + 4 := by rw [← hG7]; rfl
  generalize hG8 : ya_sR G7 a 3 (some (N + 3)) = G8
  have hl8 : ya_le G7 G8 := by rw [← hG8]; exact ya_le.sR
  have hN8 : G8.1 = N + 4 := by rw [← hG8]; exact hN7
  generalize hG9 : ya_nH (N + 4) G8 (20, 20) = G9
  have hl9 : ya_le G8 G9 := by rw [← hG9]; exact ya_le.nH hN8
  have hN9 : G9.1 = N + 5 := by rw [← hG9]; rfl
  generalize hG10 : ya_sR G9 a 4 (some (N + 4)) = G10
  have hl10 : ya_le G9 G10 := by rw [← hG10]; exact ya_le.sR
  have hN10 : G10.1 = N + 5 := by rw [← hG10]; exact hN9
  generalize hG11 : ya_nH (N + 5) G10 (20, 20) = G11
  have hl11 : ya_le G10 G11 := by rw [← hG11]; exact ya_le.nH hN10
  have hN11 : G11.1 = N + 6 := by rw [← hG11]; rfl
  generalize hG12 : ya_sR G11 a 5 (some (N + 5)) = G12
  have hl12 : ya_le G11 G12 := by rw [← hG12]; exact ya_le.sR
  have hN12 : G12.1 = N + 6 := by rw [← hG12]; exact hN11
  exact ⟨hl1.tr (hl2.tr (hl3.tr (hl4.tr (hl5.tr (hl6.tr (hl7.tr (hl8.tr (hl9.tr (hl10.tr (hl11.tr (hl12))))))))))), hN12⟩
theorem iR_X5_init {a N : Nat} {G : ya_G} (b : Nat) (hb : b < N) (hba : b ≠ a) (k : Nat) : (iG_X5_init a N G).2.2 b k = G.2.2 b k := by
  unfold iG_X5_init
  rw [ya_sR_n hba]
  rw [ya_nH_n (by omega)]
  rw [ya_sR_n hba]
  rw [ya_nH_n (by omega)]
  rw [ya_sR_n hba]
  rw [ya_nH_n (by omega)]
  rw [ya_sR_n hba]
  rw [ya_nH_n (by omega)]
  rw [ya_sR_n hba]
  rw [ya_nH_n (by omega)]
  rw [ya_sR_n hba]
  rw [ya_nH_n (by omega)]
abbrev Y_X5_init : ya_Y := (cX5_init, RX5, 1, none, "<init>", { frames := 1, cells := 6, slots := 120, locals := 20 })
theorem m_X5_init : ya_mI yX5_init Y_X5_init 0 := ⟨⟨⟨by decide +kernel, by decide +kernel, by decide +kernel⟩, (ya_in 112 (by decide +kernel) (by decide +kernel)), (ya_in 438 (by decide +kernel) (by decide +kernel))⟩, (ya_in 437 (by decide +kernel) (by decide +kernel)), rfl, rfl⟩
set_option maxHeartbeats 4000000 in
set_option maxRecDepth 20000 in
theorem c_X5_init {X : ya_X} {G : ya_G} {a N : Nat} {d : ya_D} (ho : ya_ob_ G a 5) (hN : G.1 = N) : ya_Ct X yX5_init Y_X5_init [.ref (X.2.1 + a)] G d (none, iG_X5_init a N G, iD_X5_init a N d) := by
  refine ya_ct (by decide +kernel) rfl rfl (Nat.le_of_ble_eq_true rfl) ?_
  show ya_E X Y_X5_init (ya_M X (none, iG_X5_init a N G, iD_X5_init a N d) 6 120) 0 [(0, .ref (X.2.1 + a))] [] G d 0 0
  unfold iG_X5_init iD_X5_init
  refine ya_aload_n 0 rfl dX5_init_0 ?_
  refine ya_obj ml_X5_3 wm_ob1 wm_ob2 (by decide) (Nat.le_of_ble_eq_true rfl) dX5_init_1 ?_
  refine ya_aload_n 0 rfl dX5_init_4 ?_
  refine ya_bipush 20 (by decide) dX5_init_5 ?_
  refine ya_newA (q := (N + 0)) (ka := 20) (N := 20) (by decide) (by decide) rfl wa_20 rfl hN (by decide) (by decide) (Nat.le_of_ble_eq_true rfl) (Nat.le_of_ble_eq_true rfl) (Nat.le_of_ble_eq_true rfl) dX5_init_7 ?_
  generalize hG1 : ya_nH (N + 0) G (20, 20) = G1
  have hl1 : ya_le G G1 := by rw [← hG1]; exact ya_le.nH hN
  have hN1 : G1.1 = N + 1 := by rw [← hG1]; rfl
  have ho1 := ho.up hl1
  have hs1 : G1.2.1 (N + 0) = (20, 20) := by rw [← hG1]; exact if_pos rfl
  refine ya_putF fo_X5_9 ho1.1 ho1.2 (.array .int) pg_X5_0 rfl rfl rfl dX5_init_9 ?_
  generalize hG2 : ya_sR G1 a 0 (some (N + 0)) = G2
  have hl2 : ya_le G1 G2 := by rw [← hG2]; exact ya_le.sR
  have hN2 : G2.1 = N + 1 := by rw [← hG2]; exact hN1
  have ho2 := ho1.up hl2
  refine ya_aload_n 0 rfl dX5_init_12 ?_
  refine ya_bipush 20 (by decide) dX5_init_13 ?_
  refine ya_newA (q := (N + 1)) (ka := 20) (N := 20) (by decide) (by decide) rfl wa_20 rfl hN2 (by decide) (by decide) (Nat.le_of_ble_eq_true rfl) (Nat.le_of_ble_eq_true rfl) (Nat.le_of_ble_eq_true rfl) dX5_init_15 ?_
  generalize hG3 : ya_nH (N + 1) G2 (20, 20) = G3
  have hl3 : ya_le G2 G3 := by rw [← hG3]; exact ya_le.nH hN2
  have hN3 : G3.1 = N + 2 := by rw [← hG3]; rfl
  have ho3 := ho2.up hl3
  have hs3 : G3.2.1 (N + 1) = (20, 20) := by rw [← hG3]; exact if_pos rfl
  refine ya_putF fo_X5_15 ho3.1 ho3.2 (.array .int) pg_X5_1 rfl rfl rfl dX5_init_17 ?_
  generalize hG4 : ya_sR G3 a 1 (some (N + 1)) = G4
  have hl4 : ya_le G3 G4 := by rw [← hG4]; exact ya_le.sR
  have hN4 : G4.1 = N + 2 := by rw [← hG4]; exact hN3
  have ho4 := ho3.up hl4
  refine ya_aload_n 0 rfl dX5_init_20 ?_
  refine ya_bipush 20 (by decide) dX5_init_21 ?_
  refine ya_newA (q := (N + 2)) (ka := 20) (N := 20) (by decide) (by decide) rfl wa_20 rfl hN4 (by decide) (by decide) (Nat.le_of_ble_eq_true rfl) (Nat.le_of_ble_eq_true rfl) (Nat.le_of_ble_eq_true rfl) dX5_init_23 ?_
  generalize hG5 : ya_nH (N + 2) G4 (20, 20) = G5
  have hl5 : ya_le G4 G5 := by rw [← hG5]; exact ya_le.nH hN4
  have hN5 : G5.1 = N + 3 := by rw [← hG5]; rfl
  have ho5 := ho4.up hl5
  have hs5 : G5.2.1 (N + 2) = (20, 20) := by rw [← hG5]; exact if_pos rfl
  refine ya_putF fo_X5_18 ho5.1 ho5.2 (.array .int) pg_X5_2 rfl rfl rfl dX5_init_25 ?_
  generalize hG6 : ya_sR G5 a 2 (some (N + 2)) = G6
  have hl6 : ya_le G5 G6 := by rw [← hG6]; exact ya_le.sR
  have hN6 : G6.1 = N + 3 := by rw [← hG6]; exact hN5
  have ho6 := ho5.up hl6
  refine ya_aload_n 0 rfl dX5_init_28 ?_
  refine ya_bipush 20 (by decide) dX5_init_29 ?_
  refine ya_newA (q := (N + 3)) (ka := 20) (N := 20) (by decide) (by decide) rfl wa_20 rfl hN6 (by decide) (by decide) (Nat.le_of_ble_eq_true rfl) (Nat.le_of_ble_eq_true rfl) (Nat.le_of_ble_eq_true rfl) dX5_init_31 ?_
  generalize hG7 : ya_nH (N + 3) G6 (20, 20) = G7
  have hl7 : ya_le G6 G7 := by rw [← hG7]; exact ya_le.nH hN6
  have hN7 : G7.1 = N + 4 := by rw [← hG7]; rfl
  have ho7 := ho6.up hl7
  have hs7 : G7.2.1 (N + 3) = (20, 20) := by rw [← hG7]; exact if_pos rfl
  refine ya_putF fo_X5_21 ho7.1 ho7.2 (.array .int) pg_X5_3 rfl rfl rfl dX5_init_33 ?_
  generalize hG8 : ya_sR G7 a 3 (some (N + 3)) = G8
  have hl8 : ya_le G7 G8 := by rw [← hG8]; exact ya_le.sR
  have hN8 : G8.1 = N + 4 := by rw [← hG8]; exact hN7
  have ho8 := ho7.up hl8
  refine ya_aload_n 0 rfl dX5_init_36 ?_
  refine ya_bipush 20 (by decide) dX5_init_37 ?_
  refine ya_newA (q := (N + 4)) (ka := 20) (N := 20) (by decide) (by decide) rfl wa_20 rfl hN8 (by decide) (by decide) (Nat.le_of_ble_eq_true rfl) (Nat.le_of_ble_eq_true rfl) (Nat.le_of_ble_eq_true rfl) dX5_init_39 ?_
  generalize hG9 : ya_nH (N + 4) G8 (20, 20) = G9
  have hl9 : ya_le G8 G9 := by rw [← hG9]; exact ya_le.nH hN8
  have hN9 : G9.1 = N + 5 := by rw [← hG9]; rfl
  have ho9 := ho8.up hl9
  have hs9 : G9.2.1 (N + 4) = (20, 20) := by rw [← hG9]; exact if_pos rfl
  refine ya_putF fo_X5_24 ho9.1 ho9.2 (.array .int) pg_X5_4 rfl rfl rfl dX5_init_41 ?_
  generalize hG10 : ya_sR G9 a 4 (some (N + 4)) = G10
  have hl10 : ya_le G9 G10 := by rw [← hG10]; exact ya_le.sR
  have hN10 : G10.1 = N + 5 := by rw [← hG10]; exact hN9
  have ho10 := ho9.up hl10
  refine ya_aload_n 0 rfl dX5_init_44 ?_
  refine ya_bipush 20 (by decide) dX5_init_45 ?_
  refine ya_newA (q := (N + 5)) (ka := 20) (N := 20) (by decide) (by decide) rfl wa_20 rfl hN10 (by decide) (by decide) (Nat.le_of_ble_eq_true rfl) (Nat.le_of_ble_eq_true rfl) (Nat.le_of_ble_eq_true rfl) dX5_init_47 ?_
  generalize hG11 : ya_nH (N + 5) G10 (20, 20) = G11
  have hl11 : ya_le G10 G11 := by rw [← hG11]; exact ya_le.nH hN10
  have hN11 : G11.1 = N + 6 := by rw [← hG11]; rfl
  have ho11 := ho10.up hl11
  have hs11 : G11.2.1 (N + 5) = (20, 20) := by rw [← hG11]; exact if_pos rfl
  refine ya_putF fo_X5_27 ho11.1 ho11.2 (.array .int) pg_X5_5 rfl rfl rfl dX5_init_49 ?_
  generalize hG12 : ya_sR G11 a 5 (some (N + 5)) = G12
  have hl12 : ya_le G11 G12 := by rw [← hG12]; exact ya_le.sR
  have hN12 : G12.1 = N + 6 := by rw [← hG12]; exact hN11
  have ho12 := ho11.up hl12
  exact ya_vret rfl rfl rfl rfl rfl (Nat.le_of_ble_eq_true rfl) dX5_init_52
def iG_X0_init (a N : Nat) (G : ya_G) : ya_G := ya_sR (ya_nH (N + 0) (G) (20, 20)) a 0 (some (N + 0))
def iD_X0_init (a N : Nat) (d : ya_D) : ya_D := ya_nE (N + 0) (d)
set_option maxRecDepth 20000 in
theorem iL_X0_init {a N : Nat} {G : ya_G} (hN : G.1 = N) : ya_le G (iG_X0_init a N G) ∧ (iG_X0_init a N G).1 = N + 1 := by
  unfold iG_X0_init
  generalize hG1 : ya_nH (N + 0) G (20, 20) = G1
  have hl1 : ya_le G G1 := by rw [← hG1]; exact ya_le.nH hN
  have hN1 : G1.1 = N + 1 := by rw [← hG1]; rfl
  generalize hG2 : ya_sR G1 a 0 (some (N + 0)) = G2
  have hl2 : ya_le G1 G2 := by rw [← hG2]; exact ya_le.sR
  have hN2 : G2.1 = N + 1 := by rw [← hG2]; exact hN1
  exact ⟨hl1.tr (hl2), hN2⟩
theorem iR_X0_init {a N : Nat} {G : ya_G} (b : Nat) (hb : b < N) (hba : b ≠ a) (k : Nat) : (iG_X0_init a N G).2.2 b k = G.2.2 b k := by
  unfold iG_X0_init
  rw [ya_sR_n hba]
  rw [ya_nH_n (by omega)]
abbrev Y_X0_init : ya_Y := (cX0_init, RX0, 1, none, "<init>", { frames := 1, cells := 1, slots := 20, locals := 20 })
theorem m_X0_init : ya_mI yX0_init Y_X0_init 0 := ⟨⟨⟨by decide +kernel, by decide +kernel, by decide +kernel⟩, (ya_in 113 (by decide +kernel) (by decide +kernel)), (ya_in 470 (by decide +kernel) (by decide +kernel))⟩, (ya_in 469 (by decide +kernel) (by decide +kernel)), rfl, rfl⟩
set_option maxHeartbeats 4000000 in
set_option maxRecDepth 20000 in
theorem c_X0_init {X : ya_X} {G : ya_G} {a N : Nat} {d : ya_D} (ho : ya_ob_ G a 0) (hN : G.1 = N) : ya_Ct X yX0_init Y_X0_init [.ref (X.2.1 + a)] G d (none, iG_X0_init a N G, iD_X0_init a N d) := by
  refine ya_ct (by decide +kernel) rfl rfl (Nat.le_of_ble_eq_true rfl) ?_
  show ya_E X Y_X0_init (ya_M X (none, iG_X0_init a N G, iD_X0_init a N d) 1 20) 0 [(0, .ref (X.2.1 + a))] [] G d 0 0
  unfold iG_X0_init iD_X0_init
  refine ya_aload_n 0 rfl dX0_init_0 ?_
  refine ya_obj ml_X0_3 wm_ob1 wm_ob2 (by decide) (Nat.le_of_ble_eq_true rfl) dX0_init_1 ?_
  refine ya_aload_n 0 rfl dX0_init_4 ?_
  refine ya_bipush 20 (by decide) dX0_init_5 ?_
  refine ya_newA (q := (N + 0)) (ka := 20) (N := 20) (by decide) (by decide) rfl wa_20 rfl hN (by decide) (by decide) (Nat.le_of_ble_eq_true rfl) (Nat.le_of_ble_eq_true rfl) (Nat.le_of_ble_eq_true rfl) dX0_init_7 ?_
  generalize hG1 : ya_nH (N + 0) G (20, 20) = G1
  have hl1 : ya_le G G1 := by rw [← hG1]; exact ya_le.nH hN
  have hN1 : G1.1 = N + 1 := by rw [← hG1]; rfl
  have ho1 := ho.up hl1
  have hs1 : G1.2.1 (N + 0) = (20, 20) := by rw [← hG1]; exact if_pos rfl
  refine ya_putF fo_X0_9 ho1.1 ho1.2 (.array .int) pg_X0_0 rfl rfl rfl dX0_init_9 ?_
  generalize hG2 : ya_sR G1 a 0 (some (N + 0)) = G2
  have hl2 : ya_le G1 G2 := by rw [← hG2]; exact ya_le.sR
  have hN2 : G2.1 = N + 1 := by rw [← hG2]; exact hN1
  have ho2 := ho1.up hl2
  exact ya_vret rfl rfl rfl rfl rfl (Nat.le_of_ble_eq_true rfl) dX0_init_12
def iG_X11_init (a N : Nat) (G : ya_G) : ya_G := ya_sR (ya_nH (N + 81) (ya_sR (ya_nH (N + 80) (ya_sR (iG_X0_init (N + 78) (N + 79) (ya_nH (N + 78) (ya_sR (iG_X5_init (N + 71) (N + 72) (ya_nH (N + 71) (ya_sR (iG_X10_init (N + 56) (N + 57) (ya_nH (N + 56) (ya_sR (iG_X10_init (N + 41) (N + 42) (ya_nH (N + 41) (ya_sR (iG_X2_init (N + 23) (N + 24) (ya_nH (N + 23) (ya_sR (iG_X3_init (N + 2) (N + 3) (ya_nH (N + 2) (ya_sR (iG_X7_init (N + 0) (N + 1) (ya_nH (N + 0) (G) (7, 0))) a 0 (some (N + 0))) (3, 0))) a 1 (some (N + 2))) (2, 0))) a 2 (some (N + 23))) (10, 0))) a 3 (some (N + 41))) (10, 0))) a 4 (some (N + 56))) (5, 0))) a 5 (some (N + 71))) (0, 0))) a 6 (some (N + 78))) (25, 3)) a 7 (some (N + 80))) (26, 4)) a 8 (some (N + 81))
def iD_X11_init (a N : Nat) (d : ya_D) : ya_D := ya_sI (ya_nE (N + 81) (ya_nE (N + 80) (iD_X0_init (N + 78) (N + 79) (ya_nE (N + 78) (iD_X5_init (N + 71) (N + 72) (ya_nE (N + 71) (iD_X10_init (N + 56) (N + 57) (ya_nE (N + 56) (iD_X10_init (N + 41) (N + 42) (ya_nE (N + 41) (iD_X2_init (N + 23) (N + 24) (ya_nE (N + 23) (iD_X3_init (N + 2) (N + 3) (ya_nE (N + 2) (iD_X7_init (N + 0) (N + 1) (ya_nE (N + 0) (d))))))))))))))))) a 9 0
set_option maxRecDepth 20000 in
theorem iL_X11_init {a N : Nat} {G : ya_G} (hN : G.1 = N) : ya_le G (iG_X11_init a N G) ∧ (iG_X11_init a N G).1 = N + 82 := by
  unfold iG_X11_init
  generalize hG1 : ya_nH (N + 0) G (7, 0) = G1
  have hl1 : ya_le G G1 := by rw [← hG1]; exact ya_le.nH hN
  have hN1 : G1.1 = N + 1 := by rw [← hG1]; rfl
  generalize hG2 : iG_X7_init (N + 0) (N + 1) G1 = G2
  have hl2 : ya_le G1 G2 := by rw [← hG2]; exact (iL_X7_init hN1).1
  have hN2 : G2.1 = N + 2 := by rw [← hG2, (iL_X7_init hN1).2]
  generalize hG3 : ya_sR G2 a 0 (some (N + 0)) = G3
  have hl3 : ya_le G2 G3 := by rw [← hG3]; exact ya_le.sR
  have hN3 : G3.1 = N + 2 := by rw [← hG3]; exact hN2
  generalize hG4 : ya_nH (N + 2) G3 (3, 0) = G4
  have hl4 : ya_le G3 G4 := by rw [← hG4]; exact ya_le.nH hN3
  have hN4 : G4.1 = N + 3 := by rw [← hG4]; rfl
  generalize hG5 : iG_X3_init (N + 2) (N + 3) G4 = G5
  have hl5 : ya_le G4 G5 := by rw [← hG5]; exact (iL_X3_init hN4).1
  have hN5 : G5.1 = N + 23 := by rw [← hG5, (iL_X3_init hN4).2]
  generalize hG6 : ya_sR G5 a 1 (some (N + 2)) = G6
  have hl6 : ya_le G5 G6 := by rw [← hG6]; exact ya_le.sR
  have hN6 : G6.1 = N + 23 := by rw [← hG6]; exact hN5
  generalize hG7 : ya_nH (N + 23) G6 (2, 0) = G7
  have hl7 : ya_le G6 G7 := by rw [← hG7]; exact ya_le.nH hN6
  have hN7 : G7.1 = N + 24 := by rw [← hG7]; rfl
  generalize hG8 : iG_X2_init (N + 23) (N + 24) G7 = G8
  have hl8 : ya_le G7 G8 := by rw [← hG8]; exact (iL_X2_init hN7).1
  have hN8 : G8.1 = N + 41 := by rw [← hG8, (iL_X2_init hN7).2]
  generalize hG9 : ya_sR G8 a 2 (some (N + 23)) = G9
  have hl9 : ya_le G8 G9 := by rw [← hG9]; exact ya_le.sR
  have hN9 : G9.1 = N + 41 := by rw [← hG9]; exact hN8
  generalize hG10 : ya_nH (N + 41) G9 (10, 0) = G10
  have hl10 : ya_le G9 G10 := by rw [← hG10]; exact ya_le.nH hN9
  have hN10 : G10.1 = N + 42 := by rw [← hG10]; rfl
  generalize hG11 : iG_X10_init (N + 41) (N + 42) G10 = G11
  have hl11 : ya_le G10 G11 := by rw [← hG11]; exact (iL_X10_init hN10).1
  have hN11 : G11.1 = N + 56 := by rw [← hG11, (iL_X10_init hN10).2]
  generalize hG12 : ya_sR G11 a 3 (some (N + 41)) = G12
  have hl12 : ya_le G11 G12 := by rw [← hG12]; exact ya_le.sR
  have hN12 : G12.1 = N + 56 := by rw [← hG12]; exact hN11
  generalize hG13 : ya_nH (N + 56) G12 (10, 0) = G13
  have hl13 : ya_le G12 G13 := by rw [← hG13]; exact ya_le.nH hN12
  have hN13 : G13.1 = N + 57 := by rw [← hG13]; rfl
  generalize hG14 : iG_X10_init (N + 56) (N + 57) G13 = G14
  have hl14 : ya_le G13 G14 := by rw [← hG14]; exact (iL_X10_init hN13).1
  have hN14 : G14.1 = N + 71 := by rw [← hG14, (iL_X10_init hN13).2]
  generalize hG15 : ya_sR G14 a 4 (some (N + 56)) = G15
  have hl15 : ya_le G14 G15 := by rw [← hG15]; exact ya_le.sR
  have hN15 : G15.1 = N + 71 := by rw [← hG15]; exact hN14
  generalize hG16 : ya_nH (N + 71) G15 (5, 0) = G16
  have hl16 : ya_le G15 G16 := by rw [← hG16]; exact ya_le.nH hN15
  have hN16 : G16.1 = N + 72 := by rw [← hG16]; rfl
  generalize hG17 : iG_X5_init (N + 71) (N + 72) G16 = G17
  have hl17 : ya_le G16 G17 := by rw [← hG17]; exact (iL_X5_init hN16).1
  have hN17 : G17.1 = N + 78 := by rw [← hG17, (iL_X5_init hN16).2]
  generalize hG18 : ya_sR G17 a 5 (some (N + 71)) = G18
  have hl18 : ya_le G17 G18 := by rw [← hG18]; exact ya_le.sR
  have hN18 : G18.1 = N + 78 := by rw [← hG18]; exact hN17
  generalize hG19 : ya_nH (N + 78) G18 (0, 0) = G19
  have hl19 : ya_le G18 G19 := by rw [← hG19]; exact ya_le.nH hN18
  have hN19 : G19.1 = N + 79 := by rw [← hG19]; rfl
  generalize hG20 : iG_X0_init (N + 78) (N + 79) G19 = G20
  have hl20 : ya_le G19 G20 := by rw [← hG20]; exact (iL_X0_init hN19).1
  have hN20 : G20.1 = N + 80 := by rw [← hG20, (iL_X0_init hN19).2]
  generalize hG21 : ya_sR G20 a 6 (some (N + 78)) = G21
  have hl21 : ya_le G20 G21 := by rw [← hG21]; exact ya_le.sR
  have hN21 : G21.1 = N + 80 := by rw [← hG21]; exact hN20
  generalize hG22 : ya_nH (N + 80) G21 (25, 3) = G22
  have hl22 : ya_le G21 G22 := by rw [← hG22]; exact ya_le.nH hN21
  have hN22 : G22.1 = N + 81 := by rw [← hG22]; rfl
  generalize hG23 : ya_sR G22 a 7 (some (N + 80)) = G23
  have hl23 : ya_le G22 G23 := by rw [← hG23]; exact ya_le.sR
  have hN23 : G23.1 = N + 81 := by rw [← hG23]; exact hN22
  generalize hG24 : ya_nH (N + 81) G23 (26, 4) = G24
  have hl24 : ya_le G23 G24 := by rw [← hG24]; exact ya_le.nH hN23
  have hN24 : G24.1 = N + 82 := by rw [← hG24]; rfl
  generalize hG25 : ya_sR G24 a 8 (some (N + 81)) = G25
  have hl25 : ya_le G24 G25 := by rw [← hG25]; exact ya_le.sR
  have hN25 : G25.1 = N + 82 := by rw [← hG25]; exact hN24
  exact ⟨hl1.tr (hl2.tr (hl3.tr (hl4.tr (hl5.tr (hl6.tr (hl7.tr (hl8.tr (hl9.tr (hl10.tr (hl11.tr (hl12.tr (hl13.tr (hl14.tr (hl15.tr (hl16.tr (hl17.tr (hl18.tr (hl19.tr (hl20.tr (hl21.tr (hl22.tr (hl23.tr (hl24.tr (hl25)))))))))))))))))))))))), hN25⟩
theorem iR_X11_init {a N : Nat} {G : ya_G} (b : Nat) (hb : b < N) (hba : b ≠ a) (k : Nat) : (iG_X11_init a N G).2.2 b k = G.2.2 b k := by
  unfold iG_X11_init
  rw [ya_sR_n hba]
  rw [ya_nH_n (by omega)]
  rw [ya_sR_n hba]
  rw [ya_nH_n (by omega)]
  rw [ya_sR_n hba]
  rw [iR_X0_init b (by omega) (by omega) k]
  rw [ya_nH_n (by omega)]
  rw [ya_sR_n hba]
  rw [iR_X5_init b (by omega) (by omega) k]
  rw [ya_nH_n (by omega)]
  rw [ya_sR_n hba]
  rw [iR_X10_init b (by omega) (by omega) k]
  rw [ya_nH_n (by omega)]
  rw [ya_sR_n hba]
  rw [iR_X10_init b (by omega) (by omega) k]
  rw [ya_nH_n (by omega)]
  rw [ya_sR_n hba]
  rw [iR_X2_init b (by omega) (by omega) k]
  rw [ya_nH_n (by omega)]
  rw [ya_sR_n hba]
  rw [iR_X3_init b (by omega) (by omega) k]
  rw [ya_nH_n (by omega)]
  rw [ya_sR_n hba]
  rw [iR_X7_init b (by omega) (by omega) k]
  rw [ya_nH_n (by omega)]
abbrev Y_X11_init : ya_Y := (cX11_init, RX11, 1, none, "<init>", { frames := 4, cells := 82, slots := 4660, locals := 80 })
theorem m_X11_init : ya_mI yX11_init Y_X11_init 0 := ⟨⟨⟨by decide +kernel, by decide +kernel, by decide +kernel⟩, (ya_in 103 (by decide +kernel) (by decide +kernel)), (ya_in 129 (by decide +kernel) (by decide +kernel))⟩, (ya_in 128 (by decide +kernel) (by decide +kernel)), rfl, rfl⟩
set_option maxHeartbeats 4000000 in
set_option maxRecDepth 20000 in
theorem c_X11_init {X : ya_X} {G : ya_G} {a N : Nat} {d : ya_D} (ho : ya_ob_ G a 11) (hN : G.1 = N) : ya_Ct X yX11_init Y_X11_init [.ref (X.2.1 + a)] G d (none, iG_X11_init a N G, iD_X11_init a N d) := by
  refine ya_ct (by decide +kernel) rfl rfl (Nat.le_of_ble_eq_true rfl) ?_
  show ya_E X Y_X11_init (ya_M X (none, iG_X11_init a N G, iD_X11_init a N d) 82 4660) 0 [(0, .ref (X.2.1 + a))] [] G d 0 0
  unfold iG_X11_init iD_X11_init
  refine ya_aload_n 0 rfl dX11_init_0 ?_
  refine ya_obj ml_X11_1 wm_ob1 wm_ob2 (by decide) (Nat.le_of_ble_eq_true rfl) dX11_init_1 ?_
  refine ya_aload_n 0 rfl dX11_init_4 ?_
  refine ya_newO (q := (N + 0)) mk_X11_7 hN (Nat.le_of_ble_eq_true rfl) (Nat.le_of_ble_eq_true rfl) dX11_init_5 ?_
  generalize hG1 : ya_nH (N + 0) G (7, 0) = G1
  have hl1 : ya_le G G1 := by rw [← hG1]; exact ya_le.nH hN
  have hN1 : G1.1 = N + 1 := by rw [← hG1]; rfl
  have ho1 := ho.up hl1
  have hn1 : ya_ob_ G1 (N + 0) 7 := by rw [← hG1]; exact ya_ob_.new
  refine ya_dup rfl dX11_init_8 ?_
  refine ya_callINv (S := [.ref (X.2.1 + (N + 0)), .ref (X.2.1 + a)]) (c_X7_init (a := (N + 0)) hn1 hN1) m_X7_init 0 rfl rfl ⟨Nat.le_of_ble_eq_true rfl, Nat.le_of_ble_eq_true rfl⟩ (Nat.le_of_ble_eq_true rfl) ⟨Nat.le_of_ble_eq_true rfl, Nat.le_of_ble_eq_true rfl⟩ (by show (iG_X7_init (N + 0) _ _).1 = _; rw [(iL_X7_init hN1).2, hN1]) dX11_init_9 rfl ?_
  generalize hG2 : iG_X7_init (N + 0) (N + 1) G1 = G2
  have hl2 : ya_le G1 G2 := by rw [← hG2]; exact (iL_X7_init hN1).1
  have hN2 : G2.1 = N + 2 := by rw [← hG2, (iL_X7_init hN1).2]
  have ho2 := ho1.up hl2
  refine ya_putF fo_X11_10 ho2.1 ho2.2 (.object "YearAgo$Tape") pg_X11_0 rfl rfl rfl dX11_init_12 ?_
  generalize hG3 : ya_sR G2 a 0 (some (N + 0)) = G3
  have hl3 : ya_le G2 G3 := by rw [← hG3]; exact ya_le.sR
  have hN3 : G3.1 = N + 2 := by rw [← hG3]; exact hN2
  have ho3 := ho2.up hl3
  refine ya_aload_n 0 rfl dX11_init_15 ?_
  refine ya_newO (q := (N + 2)) mk_X11_16 hN3 (Nat.le_of_ble_eq_true rfl) (Nat.le_of_ble_eq_true rfl) dX11_init_16 ?_
  generalize hG4 : ya_nH (N + 2) G3 (3, 0) = G4
  have hl4 : ya_le G3 G4 := by rw [← hG4]; exact ya_le.nH hN3
  have hN4 : G4.1 = N + 3 := by rw [← hG4]; rfl
  have ho4 := ho3.up hl4
  have hn4 : ya_ob_ G4 (N + 2) 3 := by rw [← hG4]; exact ya_ob_.new
  refine ya_dup rfl dX11_init_19 ?_
  refine ya_callINv (S := [.ref (X.2.1 + (N + 2)), .ref (X.2.1 + a)]) (c_X3_init (a := (N + 2)) hn4 hN4) m_X3_init 1 rfl rfl ⟨Nat.le_of_ble_eq_true rfl, Nat.le_of_ble_eq_true rfl⟩ (Nat.le_of_ble_eq_true rfl) ⟨Nat.le_of_ble_eq_true rfl, Nat.le_of_ble_eq_true rfl⟩ (by show (iG_X3_init (N + 2) _ _).1 = _; rw [(iL_X3_init hN4).2, hN4]) dX11_init_20 rfl ?_
  generalize hG5 : iG_X3_init (N + 2) (N + 3) G4 = G5
  have hl5 : ya_le G4 G5 := by rw [← hG5]; exact (iL_X3_init hN4).1
  have hN5 : G5.1 = N + 23 := by rw [← hG5, (iL_X3_init hN4).2]
  have ho5 := ho4.up hl5
  refine ya_putF fo_X11_19 ho5.1 ho5.2 (.object "YearAgo$Reader") pg_X11_1 rfl rfl rfl dX11_init_23 ?_
  generalize hG6 : ya_sR G5 a 1 (some (N + 2)) = G6
  have hl6 : ya_le G5 G6 := by rw [← hG6]; exact ya_le.sR
  have hN6 : G6.1 = N + 23 := by rw [← hG6]; exact hN5
  have ho6 := ho5.up hl6
  refine ya_aload_n 0 rfl dX11_init_26 ?_
  refine ya_newO (q := (N + 23)) mk_X11_23 hN6 (Nat.le_of_ble_eq_true rfl) (Nat.le_of_ble_eq_true rfl) dX11_init_27 ?_
  generalize hG7 : ya_nH (N + 23) G6 (2, 0) = G7
  have hl7 : ya_le G6 G7 := by rw [← hG7]; exact ya_le.nH hN6
  have hN7 : G7.1 = N + 24 := by rw [← hG7]; rfl
  have ho7 := ho6.up hl7
  have hn7 : ya_ob_ G7 (N + 23) 2 := by rw [← hG7]; exact ya_ob_.new
  refine ya_dup rfl dX11_init_30 ?_
  refine ya_callINv (S := [.ref (X.2.1 + (N + 23)), .ref (X.2.1 + a)]) (c_X2_init (a := (N + 23)) hn7 hN7) m_X2_init 7 rfl rfl ⟨Nat.le_of_ble_eq_true rfl, Nat.le_of_ble_eq_true rfl⟩ (Nat.le_of_ble_eq_true rfl) ⟨Nat.le_of_ble_eq_true rfl, Nat.le_of_ble_eq_true rfl⟩ (by show (iG_X2_init (N + 23) _ _).1 = _; rw [(iL_X2_init hN7).2, hN7]) dX11_init_31 rfl ?_
  generalize hG8 : iG_X2_init (N + 23) (N + 24) G7 = G8
  have hl8 : ya_le G7 G8 := by rw [← hG8]; exact (iL_X2_init hN7).1
  have hN8 : G8.1 = N + 41 := by rw [← hG8, (iL_X2_init hN7).2]
  have ho8 := ho7.up hl8
  refine ya_putF fo_X11_26 ho8.1 ho8.2 (.object "YearAgo$Market") pg_X11_2 rfl rfl rfl dX11_init_34 ?_
  generalize hG9 : ya_sR G8 a 2 (some (N + 23)) = G9
  have hl9 : ya_le G8 G9 := by rw [← hG9]; exact ya_le.sR
  have hN9 : G9.1 = N + 41 := by rw [← hG9]; exact hN8
  have ho9 := ho8.up hl9
  refine ya_aload_n 0 rfl dX11_init_37 ?_
  refine ya_newO (q := (N + 41)) mk_X11_30 hN9 (Nat.le_of_ble_eq_true rfl) (Nat.le_of_ble_eq_true rfl) dX11_init_38 ?_
  generalize hG10 : ya_nH (N + 41) G9 (10, 0) = G10
  have hl10 : ya_le G9 G10 := by rw [← hG10]; exact ya_le.nH hN9
  have hN10 : G10.1 = N + 42 := by rw [← hG10]; rfl
  have ho10 := ho9.up hl10
  have hn10 : ya_ob_ G10 (N + 41) 10 := by rw [← hG10]; exact ya_ob_.new
  refine ya_dup rfl dX11_init_41 ?_
  refine ya_callINv (S := [.ref (X.2.1 + (N + 41)), .ref (X.2.1 + a)]) (c_X10_init (a := (N + 41)) hn10 hN10) m_X10_init 8 rfl rfl ⟨Nat.le_of_ble_eq_true rfl, Nat.le_of_ble_eq_true rfl⟩ (Nat.le_of_ble_eq_true rfl) ⟨Nat.le_of_ble_eq_true rfl, Nat.le_of_ble_eq_true rfl⟩ (by show (iG_X10_init (N + 41) _ _).1 = _; rw [(iL_X10_init hN10).2, hN10]) dX11_init_42 rfl ?_
  generalize hG11 : iG_X10_init (N + 41) (N + 42) G10 = G11
  have hl11 : ya_le G10 G11 := by rw [← hG11]; exact (iL_X10_init hN10).1
  have hN11 : G11.1 = N + 56 := by rw [← hG11, (iL_X10_init hN10).2]
  have ho11 := ho10.up hl11
  refine ya_putF fo_X11_33 ho11.1 ho11.2 (.object "YearAgo$Year") pg_X11_3 rfl rfl rfl dX11_init_45 ?_
  generalize hG12 : ya_sR G11 a 3 (some (N + 41)) = G12
  have hl12 : ya_le G11 G12 := by rw [← hG12]; exact ya_le.sR
  have hN12 : G12.1 = N + 56 := by rw [← hG12]; exact hN11
  have ho12 := ho11.up hl12
  refine ya_aload_n 0 rfl dX11_init_48 ?_
  refine ya_newO (q := (N + 56)) mk_X11_30 hN12 (Nat.le_of_ble_eq_true rfl) (Nat.le_of_ble_eq_true rfl) dX11_init_49 ?_
  generalize hG13 : ya_nH (N + 56) G12 (10, 0) = G13
  have hl13 : ya_le G12 G13 := by rw [← hG13]; exact ya_le.nH hN12
  have hN13 : G13.1 = N + 57 := by rw [← hG13]; rfl
  have ho13 := ho12.up hl13
  have hn13 : ya_ob_ G13 (N + 56) 10 := by rw [← hG13]; exact ya_ob_.new
  refine ya_dup rfl dX11_init_52 ?_
  refine ya_callINv (S := [.ref (X.2.1 + (N + 56)), .ref (X.2.1 + a)]) (c_X10_init (a := (N + 56)) hn13 hN13) m_X10_init 8 rfl rfl ⟨Nat.le_of_ble_eq_true rfl, Nat.le_of_ble_eq_true rfl⟩ (Nat.le_of_ble_eq_true rfl) ⟨Nat.le_of_ble_eq_true rfl, Nat.le_of_ble_eq_true rfl⟩ (by show (iG_X10_init (N + 56) _ _).1 = _; rw [(iL_X10_init hN13).2, hN13]) dX11_init_53 rfl ?_
  generalize hG14 : iG_X10_init (N + 56) (N + 57) G13 = G14
  have hl14 : ya_le G13 G14 := by rw [← hG14]; exact (iL_X10_init hN13).1
  have hN14 : G14.1 = N + 71 := by rw [← hG14, (iL_X10_init hN13).2]
  have ho14 := ho13.up hl14
  refine ya_putF fo_X11_37 ho14.1 ho14.2 (.object "YearAgo$Year") pg_X11_4 rfl rfl rfl dX11_init_56 ?_
  generalize hG15 : ya_sR G14 a 4 (some (N + 56)) = G15
  have hl15 : ya_le G14 G15 := by rw [← hG15]; exact ya_le.sR
  have hN15 : G15.1 = N + 71 := by rw [← hG15]; exact hN14
  have ho15 := ho14.up hl15
  refine ya_aload_n 0 rfl dX11_init_59 ?_
  refine ya_newO (q := (N + 71)) mk_X11_40 hN15 (Nat.le_of_ble_eq_true rfl) (Nat.le_of_ble_eq_true rfl) dX11_init_60 ?_
  generalize hG16 : ya_nH (N + 71) G15 (5, 0) = G16
  have hl16 : ya_le G15 G16 := by rw [← hG16]; exact ya_le.nH hN15
  have hN16 : G16.1 = N + 72 := by rw [← hG16]; rfl
  have ho16 := ho15.up hl16
  have hn16 : ya_ob_ G16 (N + 71) 5 := by rw [← hG16]; exact ya_ob_.new
  refine ya_dup rfl dX11_init_63 ?_
  refine ya_callINv (S := [.ref (X.2.1 + (N + 71)), .ref (X.2.1 + a)]) (c_X5_init (a := (N + 71)) hn16 hN16) m_X5_init 9 rfl rfl ⟨Nat.le_of_ble_eq_true rfl, Nat.le_of_ble_eq_true rfl⟩ (Nat.le_of_ble_eq_true rfl) ⟨Nat.le_of_ble_eq_true rfl, Nat.le_of_ble_eq_true rfl⟩ (by show (iG_X5_init (N + 71) _ _).1 = _; rw [(iL_X5_init hN16).2, hN16]) dX11_init_64 rfl ?_
  generalize hG17 : iG_X5_init (N + 71) (N + 72) G16 = G17
  have hl17 : ya_le G16 G17 := by rw [← hG17]; exact (iL_X5_init hN16).1
  have hN17 : G17.1 = N + 78 := by rw [← hG17, (iL_X5_init hN16).2]
  have ho17 := ho16.up hl17
  refine ya_putF fo_X11_43 ho17.1 ho17.2 (.object "YearAgo$SellerAlone") pg_X11_5 rfl rfl rfl dX11_init_67 ?_
  generalize hG18 : ya_sR G17 a 5 (some (N + 71)) = G18
  have hl18 : ya_le G17 G18 := by rw [← hG18]; exact ya_le.sR
  have hN18 : G18.1 = N + 78 := by rw [← hG18]; exact hN17
  have ho18 := ho17.up hl18
  refine ya_aload_n 0 rfl dX11_init_70 ?_
  refine ya_newO (q := (N + 78)) mk_X11_47 hN18 (Nat.le_of_ble_eq_true rfl) (Nat.le_of_ble_eq_true rfl) dX11_init_71 ?_
  generalize hG19 : ya_nH (N + 78) G18 (0, 0) = G19
  have hl19 : ya_le G18 G19 := by rw [← hG19]; exact ya_le.nH hN18
  have hN19 : G19.1 = N + 79 := by rw [← hG19]; rfl
  have ho19 := ho18.up hl19
  have hn19 : ya_ob_ G19 (N + 78) 0 := by rw [← hG19]; exact ya_ob_.new
  refine ya_dup rfl dX11_init_74 ?_
  refine ya_callINv (S := [.ref (X.2.1 + (N + 78)), .ref (X.2.1 + a)]) (c_X0_init (a := (N + 78)) hn19 hN19) m_X0_init 10 rfl rfl ⟨Nat.le_of_ble_eq_true rfl, Nat.le_of_ble_eq_true rfl⟩ (Nat.le_of_ble_eq_true rfl) ⟨Nat.le_of_ble_eq_true rfl, Nat.le_of_ble_eq_true rfl⟩ (by show (iG_X0_init (N + 78) _ _).1 = _; rw [(iL_X0_init hN19).2, hN19]) dX11_init_75 rfl ?_
  generalize hG20 : iG_X0_init (N + 78) (N + 79) G19 = G20
  have hl20 : ya_le G19 G20 := by rw [← hG20]; exact (iL_X0_init hN19).1
  have hN20 : G20.1 = N + 80 := by rw [← hG20, (iL_X0_init hN19).2]
  have ho20 := ho19.up hl20
  refine ya_putF fo_X11_50 ho20.1 ho20.2 (.object "YearAgo$BuyerAlone") pg_X11_6 rfl rfl rfl dX11_init_78 ?_
  generalize hG21 : ya_sR G20 a 6 (some (N + 78)) = G21
  have hl21 : ya_le G20 G21 := by rw [← hG21]; exact ya_le.sR
  have hN21 : G21.1 = N + 80 := by rw [← hG21]; exact hN20
  have ho21 := ho20.up hl21
  refine ya_aload_n 0 rfl dX11_init_81 ?_
  refine ya_iconst 3 (by decide) dX11_init_82 ?_
  refine ya_newQ (q := (N + 80)) (ka := 25) (N := 3) (by decide) (by decide) rfl wc_X11_23 (by simp) hN21 (by decide) (by decide) (Nat.le_of_ble_eq_true rfl) (Nat.le_of_ble_eq_true rfl) (Nat.le_of_ble_eq_true rfl) dX11_init_83 ?_
  generalize hG22 : ya_nH (N + 80) G21 (25, 3) = G22
  have hl22 : ya_le G21 G22 := by rw [← hG22]; exact ya_le.nH hN21
  have hN22 : G22.1 = N + 81 := by rw [← hG22]; rfl
  have ho22 := ho21.up hl22
  refine ya_putF fo_X11_54 ho22.1 ho22.2 (.array (.object "YearAgo$Market")) pg_X11_7 rfl rfl rfl dX11_init_86 ?_
  generalize hG23 : ya_sR G22 a 7 (some (N + 80)) = G23
  have hl23 : ya_le G22 G23 := by rw [← hG23]; exact ya_le.sR
  have hN23 : G23.1 = N + 81 := by rw [← hG23]; exact hN22
  have ho23 := ho22.up hl23
  refine ya_aload_n 0 rfl dX11_init_89 ?_
  refine ya_iconst 4 (by decide) dX11_init_90 ?_
  refine ya_newQ (q := (N + 81)) (ka := 26) (N := 4) (by decide) (by decide) rfl wc_X11_58 (by simp) hN23 (by decide) (by decide) (Nat.le_of_ble_eq_true rfl) (Nat.le_of_ble_eq_true rfl) (Nat.le_of_ble_eq_true rfl) dX11_init_91 ?_
  generalize hG24 : ya_nH (N + 81) G23 (26, 4) = G24
  have hl24 : ya_le G23 G24 := by rw [← hG24]; exact ya_le.nH hN23
  have hN24 : G24.1 = N + 82 := by rw [← hG24]; rfl
  have ho24 := ho23.up hl24
  refine ya_putF fo_X11_60 ho24.1 ho24.2 (.array (.object "YearAgo$Row")) pg_X11_8 rfl rfl rfl dX11_init_94 ?_
  generalize hG25 : ya_sR G24 a 8 (some (N + 81)) = G25
  have hl25 : ya_le G24 G25 := by rw [← hG25]; exact ya_le.sR
  have hN25 : G25.1 = N + 82 := by rw [← hG25]; exact hN24
  have ho25 := ho24.up hl25
  refine ya_aload_n 0 rfl dX11_init_97 ?_
  refine ya_iconst 0 (by decide) dX11_init_98 ?_
  refine ya_putI fo_X11_64 ho25.1 ho25.2 .boolean pf_X11_9 (by decide) rfl dX11_init_99 ?_
  exact ya_vret rfl rfl rfl rfl rfl (Nat.le_of_ble_eq_true rfl) dX11_init_102
def iG_X12_init (a N : Nat) (G : ya_G) : ya_G := ya_sR (ya_nH (N + 23) (ya_sR (ya_nH (N + 22) (ya_sR (ya_nH (N + 21) (ya_sR (ya_nH (N + 20) (ya_sR (ya_nH (N + 19) (ya_sR (ya_nH (N + 18) (ya_sR (ya_nH (N + 17) (ya_sR (ya_nH (N + 16) (ya_sR (ya_nH (N + 15) (ya_sR (ya_nH (N + 14) (ya_sR (ya_nH (N + 13) (ya_sR (ya_nH (N + 12) (ya_sR (ya_nH (N + 11) (ya_sR (ya_nH (N + 10) (ya_sR (ya_nH (N + 9) (ya_sR (ya_nH (N + 8) (ya_sR (ya_nH (N + 7) (ya_sR (ya_nH (N + 6) (ya_sR (ya_nH (N + 5) (ya_sR (ya_nH (N + 4) (ya_sR (ya_nH (N + 3) (ya_sR (ya_nH (N + 2) (ya_sR (ya_nH (N + 1) (ya_sR (ya_nH (N + 0) (G) (20, 468)) a 1 (some (N + 0))) (20, 1404)) a 2 (some (N + 1))) (22, 3)) a 3 (some (N + 2))) (21, 2000)) a 4 (some (N + 3))) (20, 5)) a 6 (some (N + 4))) (20, 468)) a 14 (some (N + 5))) (20, 100)) a 15 (some (N + 6))) (20, 100)) a 16 (some (N + 7))) (20, 100)) a 17 (some (N + 8))) (20, 100)) a 18 (some (N + 9))) (20, 100)) a 19 (some (N + 10))) (20, 100)) a 20 (some (N + 11))) (20, 5)) a 21 (some (N + 12))) (20, 5)) a 22 (some (N + 13))) (20, 7)) a 23 (some (N + 14))) (20, 7)) a 24 (some (N + 15))) (20, 100)) a 25 (some (N + 16))) (20, 7)) a 26 (some (N + 17))) (20, 20)) a 29 (some (N + 18))) (20, 20)) a 30 (some (N + 19))) (20, 4)) a 31 (some (N + 20))) (20, 4)) a 32 (some (N + 21))) (24, 240)) a 33 (some (N + 22))) (24, 60)) a 34 (some (N + 23))
def iD_X12_init (a N : Nat) (d : ya_D) : ya_D := ya_nE (N + 23) (ya_nE (N + 22) (ya_nE (N + 21) (ya_sI (ya_sI (ya_sI (ya_sI (ya_nE (N + 20) (ya_nE (N + 19) (ya_nE (N + 18) (ya_nE (N + 17) (ya_nE (N + 16) (ya_nE (N + 15) (ya_nE (N + 14) (ya_nE (N + 13) (ya_nE (N + 12) (ya_nE (N + 11) (ya_nE (N + 10) (ya_nE (N + 9) (ya_nE (N + 8) (ya_nE (N + 7) (ya_nE (N + 6) (ya_nE (N + 5) (ya_sI (ya_nE (N + 4) (ya_nE (N + 3) (ya_nE (N + 2) (ya_nE (N + 1) (ya_nE (N + 0) (d)))))) a 13 (-1)))))))))))))))))) (N + 20) 0 (-1)) (N + 20) 1 (-1)) (N + 20) 2 (-1)) (N + 20) 3 (-1))))
set_option maxRecDepth 20000 in
theorem iL_X12_init {a N : Nat} {G : ya_G} (hN : G.1 = N) : ya_le G (iG_X12_init a N G) ∧ (iG_X12_init a N G).1 = N + 24 := by
  unfold iG_X12_init
  generalize hG1 : ya_nH (N + 0) G (20, 468) = G1
  have hl1 : ya_le G G1 := by rw [← hG1]; exact ya_le.nH hN
  have hN1 : G1.1 = N + 1 := by rw [← hG1]; rfl
  generalize hG2 : ya_sR G1 a 1 (some (N + 0)) = G2
  have hl2 : ya_le G1 G2 := by rw [← hG2]; exact ya_le.sR
  have hN2 : G2.1 = N + 1 := by rw [← hG2]; exact hN1
  generalize hG3 : ya_nH (N + 1) G2 (20, 1404) = G3
  have hl3 : ya_le G2 G3 := by rw [← hG3]; exact ya_le.nH hN2
  have hN3 : G3.1 = N + 2 := by rw [← hG3]; rfl
  generalize hG4 : ya_sR G3 a 2 (some (N + 1)) = G4
  have hl4 : ya_le G3 G4 := by rw [← hG4]; exact ya_le.sR
  have hN4 : G4.1 = N + 2 := by rw [← hG4]; exact hN3
  generalize hG5 : ya_nH (N + 2) G4 (22, 3) = G5
  have hl5 : ya_le G4 G5 := by rw [← hG5]; exact ya_le.nH hN4
  have hN5 : G5.1 = N + 3 := by rw [← hG5]; rfl
  generalize hG6 : ya_sR G5 a 3 (some (N + 2)) = G6
  have hl6 : ya_le G5 G6 := by rw [← hG6]; exact ya_le.sR
  have hN6 : G6.1 = N + 3 := by rw [← hG6]; exact hN5
  generalize hG7 : ya_nH (N + 3) G6 (21, 2000) = G7
  have hl7 : ya_le G6 G7 := by rw [← hG7]; exact ya_le.nH hN6
  have hN7 : G7.1 = N + 4 := by rw [← hG7]; rfl
  generalize hG8 : ya_sR G7 a 4 (some (N + 3)) = G8
  have hl8 : ya_le G7 G8 := by rw [← hG8]; exact ya_le.sR
  have hN8 : G8.1 = N + 4 := by rw [← hG8]; exact hN7
  generalize hG9 : ya_nH (N + 4) G8 (20, 5) = G9
  have hl9 : ya_le G8 G9 := by rw [← hG9]; exact ya_le.nH hN8
  have hN9 : G9.1 = N + 5 := by rw [← hG9]; rfl
  generalize hG10 : ya_sR G9 a 6 (some (N + 4)) = G10
  have hl10 : ya_le G9 G10 := by rw [← hG10]; exact ya_le.sR
  have hN10 : G10.1 = N + 5 := by rw [← hG10]; exact hN9
  generalize hG11 : ya_nH (N + 5) G10 (20, 468) = G11
  have hl11 : ya_le G10 G11 := by rw [← hG11]; exact ya_le.nH hN10
  have hN11 : G11.1 = N + 6 := by rw [← hG11]; rfl
  generalize hG12 : ya_sR G11 a 14 (some (N + 5)) = G12
  have hl12 : ya_le G11 G12 := by rw [← hG12]; exact ya_le.sR
  have hN12 : G12.1 = N + 6 := by rw [← hG12]; exact hN11
  generalize hG13 : ya_nH (N + 6) G12 (20, 100) = G13
  have hl13 : ya_le G12 G13 := by rw [← hG13]; exact ya_le.nH hN12
  have hN13 : G13.1 = N + 7 := by rw [← hG13]; rfl
  generalize hG14 : ya_sR G13 a 15 (some (N + 6)) = G14
  have hl14 : ya_le G13 G14 := by rw [← hG14]; exact ya_le.sR
  have hN14 : G14.1 = N + 7 := by rw [← hG14]; exact hN13
  generalize hG15 : ya_nH (N + 7) G14 (20, 100) = G15
  have hl15 : ya_le G14 G15 := by rw [← hG15]; exact ya_le.nH hN14
  have hN15 : G15.1 = N + 8 := by rw [← hG15]; rfl
  generalize hG16 : ya_sR G15 a 16 (some (N + 7)) = G16
  have hl16 : ya_le G15 G16 := by rw [← hG16]; exact ya_le.sR
  have hN16 : G16.1 = N + 8 := by rw [← hG16]; exact hN15
  generalize hG17 : ya_nH (N + 8) G16 (20, 100) = G17
  have hl17 : ya_le G16 G17 := by rw [← hG17]; exact ya_le.nH hN16
  have hN17 : G17.1 = N + 9 := by rw [← hG17]; rfl
  generalize hG18 : ya_sR G17 a 17 (some (N + 8)) = G18
  have hl18 : ya_le G17 G18 := by rw [← hG18]; exact ya_le.sR
  have hN18 : G18.1 = N + 9 := by rw [← hG18]; exact hN17
  generalize hG19 : ya_nH (N + 9) G18 (20, 100) = G19
  have hl19 : ya_le G18 G19 := by rw [← hG19]; exact ya_le.nH hN18
  have hN19 : G19.1 = N + 10 := by rw [← hG19]; rfl
  generalize hG20 : ya_sR G19 a 18 (some (N + 9)) = G20
  have hl20 : ya_le G19 G20 := by rw [← hG20]; exact ya_le.sR
  have hN20 : G20.1 = N + 10 := by rw [← hG20]; exact hN19
  generalize hG21 : ya_nH (N + 10) G20 (20, 100) = G21
  have hl21 : ya_le G20 G21 := by rw [← hG21]; exact ya_le.nH hN20
  have hN21 : G21.1 = N + 11 := by rw [← hG21]; rfl
  generalize hG22 : ya_sR G21 a 19 (some (N + 10)) = G22
  have hl22 : ya_le G21 G22 := by rw [← hG22]; exact ya_le.sR
  have hN22 : G22.1 = N + 11 := by rw [← hG22]; exact hN21
  generalize hG23 : ya_nH (N + 11) G22 (20, 100) = G23
  have hl23 : ya_le G22 G23 := by rw [← hG23]; exact ya_le.nH hN22
  have hN23 : G23.1 = N + 12 := by rw [← hG23]; rfl
  generalize hG24 : ya_sR G23 a 20 (some (N + 11)) = G24
  have hl24 : ya_le G23 G24 := by rw [← hG24]; exact ya_le.sR
  have hN24 : G24.1 = N + 12 := by rw [← hG24]; exact hN23
  generalize hG25 : ya_nH (N + 12) G24 (20, 5) = G25
  have hl25 : ya_le G24 G25 := by rw [← hG25]; exact ya_le.nH hN24
  have hN25 : G25.1 = N + 13 := by rw [← hG25]; rfl
  generalize hG26 : ya_sR G25 a 21 (some (N + 12)) = G26
  have hl26 : ya_le G25 G26 := by rw [← hG26]; exact ya_le.sR
  have hN26 : G26.1 = N + 13 := by rw [← hG26]; exact hN25
  generalize hG27 : ya_nH (N + 13) G26 (20, 5) = G27
  have hl27 : ya_le G26 G27 := by rw [← hG27]; exact ya_le.nH hN26
  have hN27 : G27.1 = N + 14 := by rw [← hG27]; rfl
  generalize hG28 : ya_sR G27 a 22 (some (N + 13)) = G28
  have hl28 : ya_le G27 G28 := by rw [← hG28]; exact ya_le.sR
  have hN28 : G28.1 = N + 14 := by rw [← hG28]; exact hN27
  generalize hG29 : ya_nH (N + 14) G28 (20, 7) = G29
  have hl29 : ya_le G28 G29 := by rw [← hG29]; exact ya_le.nH hN28
  have hN29 : G29.1 = N + 15 := by rw [← hG29]; rfl
  generalize hG30 : ya_sR G29 a 23 (some (N + 14)) = G30
  have hl30 : ya_le G29 G30 := by rw [← hG30]; exact ya_le.sR
  have hN30 : G30.1 = N + 15 := by rw [← hG30]; exact hN29
  generalize hG31 : ya_nH (N + 15) G30 (20, 7) = G31
  have hl31 : ya_le G30 G31 := by rw [← hG31]; exact ya_le.nH hN30
  have hN31 : G31.1 = N + 16 := by rw [← hG31]; rfl
  generalize hG32 : ya_sR G31 a 24 (some (N + 15)) = G32
  have hl32 : ya_le G31 G32 := by rw [← hG32]; exact ya_le.sR
  have hN32 : G32.1 = N + 16 := by rw [← hG32]; exact hN31
  generalize hG33 : ya_nH (N + 16) G32 (20, 100) = G33
  have hl33 : ya_le G32 G33 := by rw [← hG33]; exact ya_le.nH hN32
  have hN33 : G33.1 = N + 17 := by rw [← hG33]; rfl
  generalize hG34 : ya_sR G33 a 25 (some (N + 16)) = G34
  have hl34 : ya_le G33 G34 := by rw [← hG34]; exact ya_le.sR
  have hN34 : G34.1 = N + 17 := by rw [← hG34]; exact hN33
  generalize hG35 : ya_nH (N + 17) G34 (20, 7) = G35
  have hl35 : ya_le G34 G35 := by rw [← hG35]; exact ya_le.nH hN34
  have hN35 : G35.1 = N + 18 := by rw [← hG35]; rfl
  generalize hG36 : ya_sR G35 a 26 (some (N + 17)) = G36
  have hl36 : ya_le G35 G36 := by rw [← hG36]; exact ya_le.sR
  have hN36 : G36.1 = N + 18 := by rw [← hG36]; exact hN35
  generalize hG37 : ya_nH (N + 18) G36 (20, 20) = G37
  have hl37 : ya_le G36 G37 := by rw [← hG37]; exact ya_le.nH hN36
  have hN37 : G37.1 = N + 19 := by rw [← hG37]; rfl
  generalize hG38 : ya_sR G37 a 29 (some (N + 18)) = G38
  have hl38 : ya_le G37 G38 := by rw [← hG38]; exact ya_le.sR
  have hN38 : G38.1 = N + 19 := by rw [← hG38]; exact hN37
  generalize hG39 : ya_nH (N + 19) G38 (20, 20) = G39
  have hl39 : ya_le G38 G39 := by rw [← hG39]; exact ya_le.nH hN38
  have hN39 : G39.1 = N + 20 := by rw [← hG39]; rfl
  generalize hG40 : ya_sR G39 a 30 (some (N + 19)) = G40
  have hl40 : ya_le G39 G40 := by rw [← hG40]; exact ya_le.sR
  have hN40 : G40.1 = N + 20 := by rw [← hG40]; exact hN39
  generalize hG41 : ya_nH (N + 20) G40 (20, 4) = G41
  have hl41 : ya_le G40 G41 := by rw [← hG41]; exact ya_le.nH hN40
  have hN41 : G41.1 = N + 21 := by rw [← hG41]; rfl
  generalize hG42 : ya_sR G41 a 31 (some (N + 20)) = G42
  have hl42 : ya_le G41 G42 := by rw [← hG42]; exact ya_le.sR
  have hN42 : G42.1 = N + 21 := by rw [← hG42]; exact hN41
  generalize hG43 : ya_nH (N + 21) G42 (20, 4) = G43
  have hl43 : ya_le G42 G43 := by rw [← hG43]; exact ya_le.nH hN42
  have hN43 : G43.1 = N + 22 := by rw [← hG43]; rfl
  generalize hG44 : ya_sR G43 a 32 (some (N + 21)) = G44
  have hl44 : ya_le G43 G44 := by rw [← hG44]; exact ya_le.sR
  have hN44 : G44.1 = N + 22 := by rw [← hG44]; exact hN43
  generalize hG45 : ya_nH (N + 22) G44 (24, 240) = G45
  have hl45 : ya_le G44 G45 := by rw [← hG45]; exact ya_le.nH hN44
  have hN45 : G45.1 = N + 23 := by rw [← hG45]; rfl
  generalize hG46 : ya_sR G45 a 33 (some (N + 22)) = G46
  have hl46 : ya_le G45 G46 := by rw [← hG46]; exact ya_le.sR
  have hN46 : G46.1 = N + 23 := by rw [← hG46]; exact hN45
  generalize hG47 : ya_nH (N + 23) G46 (24, 60) = G47
  have hl47 : ya_le G46 G47 := by rw [← hG47]; exact ya_le.nH hN46
  have hN47 : G47.1 = N + 24 := by rw [← hG47]; rfl
  generalize hG48 : ya_sR G47 a 34 (some (N + 23)) = G48
  have hl48 : ya_le G47 G48 := by rw [← hG48]; exact ya_le.sR
  have hN48 : G48.1 = N + 24 := by rw [← hG48]; exact hN47
  exact ⟨hl1.tr (hl2.tr (hl3.tr (hl4.tr (hl5.tr (hl6.tr (hl7.tr (hl8.tr (hl9.tr (hl10.tr (hl11.tr (hl12.tr (hl13.tr (hl14.tr (hl15.tr (hl16.tr (hl17.tr (hl18.tr (hl19.tr (hl20.tr (hl21.tr (hl22.tr (hl23.tr (hl24.tr (hl25.tr (hl26.tr (hl27.tr (hl28.tr (hl29.tr (hl30.tr (hl31.tr (hl32.tr (hl33.tr (hl34.tr (hl35.tr (hl36.tr (hl37.tr (hl38.tr (hl39.tr (hl40.tr (hl41.tr (hl42.tr (hl43.tr (hl44.tr (hl45.tr (hl46.tr (hl47.tr (hl48))))))))))))))))))))))))))))))))))))))))))))))), hN48⟩
theorem iR_X12_init {a N : Nat} {G : ya_G} (b : Nat) (hb : b < N) (hba : b ≠ a) (k : Nat) : (iG_X12_init a N G).2.2 b k = G.2.2 b k := by
  unfold iG_X12_init
  rw [ya_sR_n hba]
  rw [ya_nH_n (by omega)]
  rw [ya_sR_n hba]
  rw [ya_nH_n (by omega)]
  rw [ya_sR_n hba]
  rw [ya_nH_n (by omega)]
  rw [ya_sR_n hba]
  rw [ya_nH_n (by omega)]
  rw [ya_sR_n hba]
  rw [ya_nH_n (by omega)]
  rw [ya_sR_n hba]
  rw [ya_nH_n (by omega)]
  rw [ya_sR_n hba]
  rw [ya_nH_n (by omega)]
  rw [ya_sR_n hba]
  rw [ya_nH_n (by omega)]
  rw [ya_sR_n hba]
  rw [ya_nH_n (by omega)]
  rw [ya_sR_n hba]
  rw [ya_nH_n (by omega)]
  rw [ya_sR_n hba]
  rw [ya_nH_n (by omega)]
  rw [ya_sR_n hba]
  rw [ya_nH_n (by omega)]
  rw [ya_sR_n hba]
  rw [ya_nH_n (by omega)]
  rw [ya_sR_n hba]
  rw [ya_nH_n (by omega)]
  rw [ya_sR_n hba]
  rw [ya_nH_n (by omega)]
  rw [ya_sR_n hba]
  rw [ya_nH_n (by omega)]
  rw [ya_sR_n hba]
  rw [ya_nH_n (by omega)]
  rw [ya_sR_n hba]
  rw [ya_nH_n (by omega)]
  rw [ya_sR_n hba]
  rw [ya_nH_n (by omega)]
  rw [ya_sR_n hba]
  rw [ya_nH_n (by omega)]
  rw [ya_sR_n hba]
  rw [ya_nH_n (by omega)]
  rw [ya_sR_n hba]
  rw [ya_nH_n (by omega)]
  rw [ya_sR_n hba]
  rw [ya_nH_n (by omega)]
  rw [ya_sR_n hba]
  rw [ya_nH_n (by omega)]
abbrev Y_X12_init : ya_Y := (cX12_init, RX12, 1, none, "<init>", { frames := 1, cells := 24, slots := 5427, locals := 20 })
theorem m_X12_init : ya_mI yX12_init Y_X12_init 0 := ⟨⟨⟨by decide +kernel, by decide +kernel, by decide +kernel⟩, (ya_in 114 (by decide +kernel) (by decide +kernel)), (ya_in 1249 (by decide +kernel) (by decide +kernel))⟩, (ya_in 1248 (by decide +kernel) (by decide +kernel)), rfl, rfl⟩
set_option maxHeartbeats 4000000 in
set_option maxRecDepth 20000 in
theorem c_X12_init {X : ya_X} {G : ya_G} {a N : Nat} {d : ya_D} (ho : ya_ob_ G a 12) (hN : G.1 = N) : ya_Ct X yX12_init Y_X12_init [.ref (X.2.1 + a)] G d (none, iG_X12_init a N G, iD_X12_init a N d) := by
  refine ya_ct (by decide +kernel) rfl rfl (Nat.le_of_ble_eq_true rfl) ?_
  show ya_E X Y_X12_init (ya_M X (none, iG_X12_init a N G, iD_X12_init a N d) 24 5427) 0 [(0, .ref (X.2.1 + a))] [] G d 0 0
  unfold iG_X12_init iD_X12_init
  refine ya_aload_n 0 rfl dX12_init_0 ?_
  refine ya_obj ml_X12_3 wm_ob1 wm_ob2 (by decide) (Nat.le_of_ble_eq_true rfl) dX12_init_1 ?_
  refine ya_aload_n 0 rfl dX12_init_4 ?_
  refine ya_sipush 468 (by decide) dX12_init_5 ?_
  refine ya_newA (q := (N + 0)) (ka := 20) (N := 468) (by decide) (by decide) rfl wa_20 rfl hN (by decide) (by decide) (Nat.le_of_ble_eq_true rfl) (Nat.le_of_ble_eq_true rfl) (Nat.le_of_ble_eq_true rfl) dX12_init_8 ?_
  generalize hG1 : ya_nH (N + 0) G (20, 468) = G1
  have hl1 : ya_le G G1 := by rw [← hG1]; exact ya_le.nH hN
  have hN1 : G1.1 = N + 1 := by rw [← hG1]; rfl
  have ho1 := ho.up hl1
  have hs1 : G1.2.1 (N + 0) = (20, 468) := by rw [← hG1]; exact if_pos rfl
  refine ya_putF fo_X12_9 ho1.1 ho1.2 (.array .int) pg_X12_1 rfl rfl rfl dX12_init_10 ?_
  generalize hG2 : ya_sR G1 a 1 (some (N + 0)) = G2
  have hl2 : ya_le G1 G2 := by rw [← hG2]; exact ya_le.sR
  have hN2 : G2.1 = N + 1 := by rw [← hG2]; exact hN1
  have ho2 := ho1.up hl2
  refine ya_aload_n 0 rfl dX12_init_13 ?_
  refine ya_sipush 1404 (by decide) dX12_init_14 ?_
  refine ya_newA (q := (N + 1)) (ka := 20) (N := 1404) (by decide) (by decide) rfl wa_20 rfl hN2 (by decide) (by decide) (Nat.le_of_ble_eq_true rfl) (Nat.le_of_ble_eq_true rfl) (Nat.le_of_ble_eq_true rfl) dX12_init_17 ?_
  generalize hG3 : ya_nH (N + 1) G2 (20, 1404) = G3
  have hl3 : ya_le G2 G3 := by rw [← hG3]; exact ya_le.nH hN2
  have hN3 : G3.1 = N + 2 := by rw [← hG3]; rfl
  have ho3 := ho2.up hl3
  have hs3 : G3.2.1 (N + 1) = (20, 1404) := by rw [← hG3]; exact if_pos rfl
  refine ya_putF fo_X12_13 ho3.1 ho3.2 (.array .int) pg_X12_2 rfl rfl rfl dX12_init_19 ?_
  generalize hG4 : ya_sR G3 a 2 (some (N + 1)) = G4
  have hl4 : ya_le G3 G4 := by rw [← hG4]; exact ya_le.sR
  have hN4 : G4.1 = N + 2 := by rw [← hG4]; exact hN3
  have ho4 := ho3.up hl4
  refine ya_aload_n 0 rfl dX12_init_22 ?_
  refine ya_iconst 3 (by decide) dX12_init_23 ?_
  refine ya_newA (q := (N + 2)) (ka := 22) (N := 3) (by decide) (by decide) rfl wa_22 rfl hN4 (by decide) (by decide) (Nat.le_of_ble_eq_true rfl) (Nat.le_of_ble_eq_true rfl) (Nat.le_of_ble_eq_true rfl) dX12_init_24 ?_
  generalize hG5 : ya_nH (N + 2) G4 (22, 3) = G5
  have hl5 : ya_le G4 G5 := by rw [← hG5]; exact ya_le.nH hN4
  have hN5 : G5.1 = N + 3 := by rw [← hG5]; rfl
  have ho5 := ho4.up hl5
  have hs5 : G5.2.1 (N + 2) = (22, 3) := by rw [← hG5]; exact if_pos rfl
  refine ya_putF fo_X12_16 ho5.1 ho5.2 (.array .boolean) pg_X12_3 rfl rfl rfl dX12_init_26 ?_
  generalize hG6 : ya_sR G5 a 3 (some (N + 2)) = G6
  have hl6 : ya_le G5 G6 := by rw [← hG6]; exact ya_le.sR
  have hN6 : G6.1 = N + 3 := by rw [← hG6]; exact hN5
  have ho6 := ho5.up hl6
  refine ya_aload_n 0 rfl dX12_init_29 ?_
  refine ya_sipush 2000 (by decide) dX12_init_30 ?_
  refine ya_newA (q := (N + 3)) (ka := 21) (N := 2000) (by decide) (by decide) rfl wa_21 rfl hN6 (by decide) (by decide) (Nat.le_of_ble_eq_true rfl) (Nat.le_of_ble_eq_true rfl) (Nat.le_of_ble_eq_true rfl) dX12_init_33 ?_
  generalize hG7 : ya_nH (N + 3) G6 (21, 2000) = G7
  have hl7 : ya_le G6 G7 := by rw [← hG7]; exact ya_le.nH hN6
  have hN7 : G7.1 = N + 4 := by rw [← hG7]; rfl
  have ho7 := ho6.up hl7
  have hs7 : G7.2.1 (N + 3) = (21, 2000) := by rw [← hG7]; exact if_pos rfl
  refine ya_putF fo_X12_20 ho7.1 ho7.2 (.array .byte) pg_X12_4 rfl rfl rfl dX12_init_35 ?_
  generalize hG8 : ya_sR G7 a 4 (some (N + 3)) = G8
  have hl8 : ya_le G7 G8 := by rw [← hG8]; exact ya_le.sR
  have hN8 : G8.1 = N + 4 := by rw [← hG8]; exact hN7
  have ho8 := ho7.up hl8
  refine ya_aload_n 0 rfl dX12_init_38 ?_
  refine ya_iconst 5 (by decide) dX12_init_39 ?_
  refine ya_newA (q := (N + 4)) (ka := 20) (N := 5) (by decide) (by decide) rfl wa_20 rfl hN8 (by decide) (by decide) (Nat.le_of_ble_eq_true rfl) (Nat.le_of_ble_eq_true rfl) (Nat.le_of_ble_eq_true rfl) dX12_init_40 ?_
  generalize hG9 : ya_nH (N + 4) G8 (20, 5) = G9
  have hl9 : ya_le G8 G9 := by rw [← hG9]; exact ya_le.nH hN8
  have hN9 : G9.1 = N + 5 := by rw [← hG9]; rfl
  have ho9 := ho8.up hl9
  have hs9 : G9.2.1 (N + 4) = (20, 5) := by rw [← hG9]; exact if_pos rfl
  refine ya_putF fo_X12_24 ho9.1 ho9.2 (.array .int) pg_X12_6 rfl rfl rfl dX12_init_42 ?_
  generalize hG10 : ya_sR G9 a 6 (some (N + 4)) = G10
  have hl10 : ya_le G9 G10 := by rw [← hG10]; exact ya_le.sR
  have hN10 : G10.1 = N + 5 := by rw [← hG10]; exact hN9
  have ho10 := ho9.up hl10
  refine ya_aload_n 0 rfl dX12_init_45 ?_
  refine ya_iconst (-1) (by decide) dX12_init_46 ?_
  refine ya_putI fo_X12_27 ho10.1 ho10.2 .int pf_X12_13 rfl rfl dX12_init_47 ?_
  refine ya_aload_n 0 rfl dX12_init_50 ?_
  refine ya_sipush 468 (by decide) dX12_init_51 ?_
  refine ya_newA (q := (N + 5)) (ka := 20) (N := 468) (by decide) (by decide) rfl wa_20 rfl hN10 (by decide) (by decide) (Nat.le_of_ble_eq_true rfl) (Nat.le_of_ble_eq_true rfl) (Nat.le_of_ble_eq_true rfl) dX12_init_54 ?_
  generalize hG11 : ya_nH (N + 5) G10 (20, 468) = G11
  have hl11 : ya_le G10 G11 := by rw [← hG11]; exact ya_le.nH hN10
  have hN11 : G11.1 = N + 6 := by rw [← hG11]; rfl
  have ho11 := ho10.up hl11
  have hs11 : G11.2.1 (N + 5) = (20, 468) := by rw [← hG11]; exact if_pos rfl
  refine ya_putF fo_X12_31 ho11.1 ho11.2 (.array .int) pg_X12_14 rfl rfl rfl dX12_init_56 ?_
  generalize hG12 : ya_sR G11 a 14 (some (N + 5)) = G12
  have hl12 : ya_le G11 G12 := by rw [← hG12]; exact ya_le.sR
  have hN12 : G12.1 = N + 6 := by rw [← hG12]; exact hN11
  have ho12 := ho11.up hl12
  refine ya_aload_n 0 rfl dX12_init_59 ?_
  refine ya_bipush 100 (by decide) dX12_init_60 ?_
  refine ya_newA (q := (N + 6)) (ka := 20) (N := 100) (by decide) (by decide) rfl wa_20 rfl hN12 (by decide) (by decide) (Nat.le_of_ble_eq_true rfl) (Nat.le_of_ble_eq_true rfl) (Nat.le_of_ble_eq_true rfl) dX12_init_62 ?_
  generalize hG13 : ya_nH (N + 6) G12 (20, 100) = G13
  have hl13 : ya_le G12 G13 := by rw [← hG13]; exact ya_le.nH hN12
  have hN13 : G13.1 = N + 7 := by rw [← hG13]; rfl
  have ho13 := ho12.up hl13
  have hs13 : G13.2.1 (N + 6) = (20, 100) := by rw [← hG13]; exact if_pos rfl
  refine ya_putF fo_X12_34 ho13.1 ho13.2 (.array .int) pg_X12_15 rfl rfl rfl dX12_init_64 ?_
  generalize hG14 : ya_sR G13 a 15 (some (N + 6)) = G14
  have hl14 : ya_le G13 G14 := by rw [← hG14]; exact ya_le.sR
  have hN14 : G14.1 = N + 7 := by rw [← hG14]; exact hN13
  have ho14 := ho13.up hl14
  refine ya_aload_n 0 rfl dX12_init_67 ?_
  refine ya_bipush 100 (by decide) dX12_init_68 ?_
  refine ya_newA (q := (N + 7)) (ka := 20) (N := 100) (by decide) (by decide) rfl wa_20 rfl hN14 (by decide) (by decide) (Nat.le_of_ble_eq_true rfl) (Nat.le_of_ble_eq_true rfl) (Nat.le_of_ble_eq_true rfl) dX12_init_70 ?_
  generalize hG15 : ya_nH (N + 7) G14 (20, 100) = G15
  have hl15 : ya_le G14 G15 := by rw [← hG15]; exact ya_le.nH hN14
  have hN15 : G15.1 = N + 8 := by rw [← hG15]; rfl
  have ho15 := ho14.up hl15
  have hs15 : G15.2.1 (N + 7) = (20, 100) := by rw [← hG15]; exact if_pos rfl
  refine ya_putF fo_X12_37 ho15.1 ho15.2 (.array .int) pg_X12_16 rfl rfl rfl dX12_init_72 ?_
  generalize hG16 : ya_sR G15 a 16 (some (N + 7)) = G16
  have hl16 : ya_le G15 G16 := by rw [← hG16]; exact ya_le.sR
  have hN16 : G16.1 = N + 8 := by rw [← hG16]; exact hN15
  have ho16 := ho15.up hl16
  refine ya_aload_n 0 rfl dX12_init_75 ?_
  refine ya_bipush 100 (by decide) dX12_init_76 ?_
  refine ya_newA (q := (N + 8)) (ka := 20) (N := 100) (by decide) (by decide) rfl wa_20 rfl hN16 (by decide) (by decide) (Nat.le_of_ble_eq_true rfl) (Nat.le_of_ble_eq_true rfl) (Nat.le_of_ble_eq_true rfl) dX12_init_78 ?_
  generalize hG17 : ya_nH (N + 8) G16 (20, 100) = G17
  have hl17 : ya_le G16 G17 := by rw [← hG17]; exact ya_le.nH hN16
  have hN17 : G17.1 = N + 9 := by rw [← hG17]; rfl
  have ho17 := ho16.up hl17
  have hs17 : G17.2.1 (N + 8) = (20, 100) := by rw [← hG17]; exact if_pos rfl
  refine ya_putF fo_X12_40 ho17.1 ho17.2 (.array .int) pg_X12_17 rfl rfl rfl dX12_init_80 ?_
  generalize hG18 : ya_sR G17 a 17 (some (N + 8)) = G18
  have hl18 : ya_le G17 G18 := by rw [← hG18]; exact ya_le.sR
  have hN18 : G18.1 = N + 9 := by rw [← hG18]; exact hN17
  have ho18 := ho17.up hl18
  refine ya_aload_n 0 rfl dX12_init_83 ?_
  refine ya_bipush 100 (by decide) dX12_init_84 ?_
  refine ya_newA (q := (N + 9)) (ka := 20) (N := 100) (by decide) (by decide) rfl wa_20 rfl hN18 (by decide) (by decide) (Nat.le_of_ble_eq_true rfl) (Nat.le_of_ble_eq_true rfl) (Nat.le_of_ble_eq_true rfl) dX12_init_86 ?_
  generalize hG19 : ya_nH (N + 9) G18 (20, 100) = G19
  have hl19 : ya_le G18 G19 := by rw [← hG19]; exact ya_le.nH hN18
  have hN19 : G19.1 = N + 10 := by rw [← hG19]; rfl
  have ho19 := ho18.up hl19
  have hs19 : G19.2.1 (N + 9) = (20, 100) := by rw [← hG19]; exact if_pos rfl
  refine ya_putF fo_X12_43 ho19.1 ho19.2 (.array .int) pg_X12_18 rfl rfl rfl dX12_init_88 ?_
  generalize hG20 : ya_sR G19 a 18 (some (N + 9)) = G20
  have hl20 : ya_le G19 G20 := by rw [← hG20]; exact ya_le.sR
  have hN20 : G20.1 = N + 10 := by rw [← hG20]; exact hN19
  have ho20 := ho19.up hl20
  refine ya_aload_n 0 rfl dX12_init_91 ?_
  refine ya_bipush 100 (by decide) dX12_init_92 ?_
  refine ya_newA (q := (N + 10)) (ka := 20) (N := 100) (by decide) (by decide) rfl wa_20 rfl hN20 (by decide) (by decide) (Nat.le_of_ble_eq_true rfl) (Nat.le_of_ble_eq_true rfl) (Nat.le_of_ble_eq_true rfl) dX12_init_94 ?_
  generalize hG21 : ya_nH (N + 10) G20 (20, 100) = G21
  have hl21 : ya_le G20 G21 := by rw [← hG21]; exact ya_le.nH hN20
  have hN21 : G21.1 = N + 11 := by rw [← hG21]; rfl
  have ho21 := ho20.up hl21
  have hs21 : G21.2.1 (N + 10) = (20, 100) := by rw [← hG21]; exact if_pos rfl
  refine ya_putF fo_X12_46 ho21.1 ho21.2 (.array .int) pg_X12_19 rfl rfl rfl dX12_init_96 ?_
  generalize hG22 : ya_sR G21 a 19 (some (N + 10)) = G22
  have hl22 : ya_le G21 G22 := by rw [← hG22]; exact ya_le.sR
  have hN22 : G22.1 = N + 11 := by rw [← hG22]; exact hN21
  have ho22 := ho21.up hl22
  refine ya_aload_n 0 rfl dX12_init_99 ?_
  refine ya_bipush 100 (by decide) dX12_init_100 ?_
  refine ya_newA (q := (N + 11)) (ka := 20) (N := 100) (by decide) (by decide) rfl wa_20 rfl hN22 (by decide) (by decide) (Nat.le_of_ble_eq_true rfl) (Nat.le_of_ble_eq_true rfl) (Nat.le_of_ble_eq_true rfl) dX12_init_102 ?_
  generalize hG23 : ya_nH (N + 11) G22 (20, 100) = G23
  have hl23 : ya_le G22 G23 := by rw [← hG23]; exact ya_le.nH hN22
  have hN23 : G23.1 = N + 12 := by rw [← hG23]; rfl
  have ho23 := ho22.up hl23
  have hs23 : G23.2.1 (N + 11) = (20, 100) := by rw [← hG23]; exact if_pos rfl
  refine ya_putF fo_X12_49 ho23.1 ho23.2 (.array .int) pg_X12_20 rfl rfl rfl dX12_init_104 ?_
  generalize hG24 : ya_sR G23 a 20 (some (N + 11)) = G24
  have hl24 : ya_le G23 G24 := by rw [← hG24]; exact ya_le.sR
  have hN24 : G24.1 = N + 12 := by rw [← hG24]; exact hN23
  have ho24 := ho23.up hl24
  refine ya_aload_n 0 rfl dX12_init_107 ?_
  refine ya_iconst 5 (by decide) dX12_init_108 ?_
  refine ya_newA (q := (N + 12)) (ka := 20) (N := 5) (by decide) (by decide) rfl wa_20 rfl hN24 (by decide) (by decide) (Nat.le_of_ble_eq_true rfl) (Nat.le_of_ble_eq_true rfl) (Nat.le_of_ble_eq_true rfl) dX12_init_109 ?_
  generalize hG25 : ya_nH (N + 12) G24 (20, 5) = G25
  have hl25 : ya_le G24 G25 := by rw [← hG25]; exact ya_le.nH hN24
  have hN25 : G25.1 = N + 13 := by rw [← hG25]; rfl
  have ho25 := ho24.up hl25
  have hs25 : G25.2.1 (N + 12) = (20, 5) := by rw [← hG25]; exact if_pos rfl
  refine ya_putF fo_X12_52 ho25.1 ho25.2 (.array .int) pg_X12_21 rfl rfl rfl dX12_init_111 ?_
  generalize hG26 : ya_sR G25 a 21 (some (N + 12)) = G26
  have hl26 : ya_le G25 G26 := by rw [← hG26]; exact ya_le.sR
  have hN26 : G26.1 = N + 13 := by rw [← hG26]; exact hN25
  have ho26 := ho25.up hl26
  refine ya_aload_n 0 rfl dX12_init_114 ?_
  refine ya_iconst 5 (by decide) dX12_init_115 ?_
  refine ya_newA (q := (N + 13)) (ka := 20) (N := 5) (by decide) (by decide) rfl wa_20 rfl hN26 (by decide) (by decide) (Nat.le_of_ble_eq_true rfl) (Nat.le_of_ble_eq_true rfl) (Nat.le_of_ble_eq_true rfl) dX12_init_116 ?_
  generalize hG27 : ya_nH (N + 13) G26 (20, 5) = G27
  have hl27 : ya_le G26 G27 := by rw [← hG27]; exact ya_le.nH hN26
  have hN27 : G27.1 = N + 14 := by rw [← hG27]; rfl
  have ho27 := ho26.up hl27
  have hs27 : G27.2.1 (N + 13) = (20, 5) := by rw [← hG27]; exact if_pos rfl
  refine ya_putF fo_X12_55 ho27.1 ho27.2 (.array .int) pg_X12_22 rfl rfl rfl dX12_init_118 ?_
  generalize hG28 : ya_sR G27 a 22 (some (N + 13)) = G28
  have hl28 : ya_le G27 G28 := by rw [← hG28]; exact ya_le.sR
  have hN28 : G28.1 = N + 14 := by rw [← hG28]; exact hN27
  have ho28 := ho27.up hl28
  refine ya_aload_n 0 rfl dX12_init_121 ?_
  refine ya_bipush 7 (by decide) dX12_init_122 ?_
  refine ya_newA (q := (N + 14)) (ka := 20) (N := 7) (by decide) (by decide) rfl wa_20 rfl hN28 (by decide) (by decide) (Nat.le_of_ble_eq_true rfl) (Nat.le_of_ble_eq_true rfl) (Nat.le_of_ble_eq_true rfl) dX12_init_124 ?_
  generalize hG29 : ya_nH (N + 14) G28 (20, 7) = G29
  have hl29 : ya_le G28 G29 := by rw [← hG29]; exact ya_le.nH hN28
  have hN29 : G29.1 = N + 15 := by rw [← hG29]; rfl
  have ho29 := ho28.up hl29
  have hs29 : G29.2.1 (N + 14) = (20, 7) := by rw [← hG29]; exact if_pos rfl
  refine ya_putF fo_X12_58 ho29.1 ho29.2 (.array .int) pg_X12_23 rfl rfl rfl dX12_init_126 ?_
  generalize hG30 : ya_sR G29 a 23 (some (N + 14)) = G30
  have hl30 : ya_le G29 G30 := by rw [← hG30]; exact ya_le.sR
  have hN30 : G30.1 = N + 15 := by rw [← hG30]; exact hN29
  have ho30 := ho29.up hl30
  refine ya_aload_n 0 rfl dX12_init_129 ?_
  refine ya_bipush 7 (by decide) dX12_init_130 ?_
  refine ya_newA (q := (N + 15)) (ka := 20) (N := 7) (by decide) (by decide) rfl wa_20 rfl hN30 (by decide) (by decide) (Nat.le_of_ble_eq_true rfl) (Nat.le_of_ble_eq_true rfl) (Nat.le_of_ble_eq_true rfl) dX12_init_132 ?_
  generalize hG31 : ya_nH (N + 15) G30 (20, 7) = G31
  have hl31 : ya_le G30 G31 := by rw [← hG31]; exact ya_le.nH hN30
  have hN31 : G31.1 = N + 16 := by rw [← hG31]; rfl
  have ho31 := ho30.up hl31
  have hs31 : G31.2.1 (N + 15) = (20, 7) := by rw [← hG31]; exact if_pos rfl
  refine ya_putF fo_X12_61 ho31.1 ho31.2 (.array .int) pg_X12_24 rfl rfl rfl dX12_init_134 ?_
  generalize hG32 : ya_sR G31 a 24 (some (N + 15)) = G32
  have hl32 : ya_le G31 G32 := by rw [← hG32]; exact ya_le.sR
  have hN32 : G32.1 = N + 16 := by rw [← hG32]; exact hN31
  have ho32 := ho31.up hl32
  refine ya_aload_n 0 rfl dX12_init_137 ?_
  refine ya_bipush 100 (by decide) dX12_init_138 ?_
  refine ya_newA (q := (N + 16)) (ka := 20) (N := 100) (by decide) (by decide) rfl wa_20 rfl hN32 (by decide) (by decide) (Nat.le_of_ble_eq_true rfl) (Nat.le_of_ble_eq_true rfl) (Nat.le_of_ble_eq_true rfl) dX12_init_140 ?_
  generalize hG33 : ya_nH (N + 16) G32 (20, 100) = G33
  have hl33 : ya_le G32 G33 := by rw [← hG33]; exact ya_le.nH hN32
  have hN33 : G33.1 = N + 17 := by rw [← hG33]; rfl
  have ho33 := ho32.up hl33
  have hs33 : G33.2.1 (N + 16) = (20, 100) := by rw [← hG33]; exact if_pos rfl
  refine ya_putF fo_X12_64 ho33.1 ho33.2 (.array .int) pg_X12_25 rfl rfl rfl dX12_init_142 ?_
  generalize hG34 : ya_sR G33 a 25 (some (N + 16)) = G34
  have hl34 : ya_le G33 G34 := by rw [← hG34]; exact ya_le.sR
  have hN34 : G34.1 = N + 17 := by rw [← hG34]; exact hN33
  have ho34 := ho33.up hl34
  refine ya_aload_n 0 rfl dX12_init_145 ?_
  refine ya_bipush 7 (by decide) dX12_init_146 ?_
  refine ya_newA (q := (N + 17)) (ka := 20) (N := 7) (by decide) (by decide) rfl wa_20 rfl hN34 (by decide) (by decide) (Nat.le_of_ble_eq_true rfl) (Nat.le_of_ble_eq_true rfl) (Nat.le_of_ble_eq_true rfl) dX12_init_148 ?_
  generalize hG35 : ya_nH (N + 17) G34 (20, 7) = G35
  have hl35 : ya_le G34 G35 := by rw [← hG35]; exact ya_le.nH hN34
  have hN35 : G35.1 = N + 18 := by rw [← hG35]; rfl
  have ho35 := ho34.up hl35
  have hs35 : G35.2.1 (N + 17) = (20, 7) := by rw [← hG35]; exact if_pos rfl
  refine ya_putF fo_X12_67 ho35.1 ho35.2 (.array .int) pg_X12_26 rfl rfl rfl dX12_init_150 ?_
  generalize hG36 : ya_sR G35 a 26 (some (N + 17)) = G36
  have hl36 : ya_le G35 G36 := by rw [← hG36]; exact ya_le.sR
  have hN36 : G36.1 = N + 18 := by rw [← hG36]; exact hN35
  have ho36 := ho35.up hl36
  refine ya_aload_n 0 rfl dX12_init_153 ?_
  refine ya_bipush 20 (by decide) dX12_init_154 ?_
  refine ya_newA (q := (N + 18)) (ka := 20) (N := 20) (by decide) (by decide) rfl wa_20 rfl hN36 (by decide) (by decide) (Nat.le_of_ble_eq_true rfl) (Nat.le_of_ble_eq_true rfl) (Nat.le_of_ble_eq_true rfl) dX12_init_156 ?_
  generalize hG37 : ya_nH (N + 18) G36 (20, 20) = G37
  have hl37 : ya_le G36 G37 := by rw [← hG37]; exact ya_le.nH hN36
  have hN37 : G37.1 = N + 19 := by rw [← hG37]; rfl
  have ho37 := ho36.up hl37
  have hs37 : G37.2.1 (N + 18) = (20, 20) := by rw [← hG37]; exact if_pos rfl
  refine ya_putF fo_X12_70 ho37.1 ho37.2 (.array .int) pg_X12_29 rfl rfl rfl dX12_init_158 ?_
  generalize hG38 : ya_sR G37 a 29 (some (N + 18)) = G38
  have hl38 : ya_le G37 G38 := by rw [← hG38]; exact ya_le.sR
  have hN38 : G38.1 = N + 19 := by rw [← hG38]; exact hN37
  have ho38 := ho37.up hl38
  refine ya_aload_n 0 rfl dX12_init_161 ?_
  refine ya_bipush 20 (by decide) dX12_init_162 ?_
  refine ya_newA (q := (N + 19)) (ka := 20) (N := 20) (by decide) (by decide) rfl wa_20 rfl hN38 (by decide) (by decide) (Nat.le_of_ble_eq_true rfl) (Nat.le_of_ble_eq_true rfl) (Nat.le_of_ble_eq_true rfl) dX12_init_164 ?_
  generalize hG39 : ya_nH (N + 19) G38 (20, 20) = G39
  have hl39 : ya_le G38 G39 := by rw [← hG39]; exact ya_le.nH hN38
  have hN39 : G39.1 = N + 20 := by rw [← hG39]; rfl
  have ho39 := ho38.up hl39
  have hs39 : G39.2.1 (N + 19) = (20, 20) := by rw [← hG39]; exact if_pos rfl
  refine ya_putF fo_X12_73 ho39.1 ho39.2 (.array .int) pg_X12_30 rfl rfl rfl dX12_init_166 ?_
  generalize hG40 : ya_sR G39 a 30 (some (N + 19)) = G40
  have hl40 : ya_le G39 G40 := by rw [← hG40]; exact ya_le.sR
  have hN40 : G40.1 = N + 20 := by rw [← hG40]; exact hN39
  have ho40 := ho39.up hl40
  refine ya_aload_n 0 rfl dX12_init_169 ?_
  refine ya_iconst 4 (by decide) dX12_init_170 ?_
  refine ya_newA (q := (N + 20)) (ka := 20) (N := 4) (by decide) (by decide) rfl wa_20 rfl hN40 (by decide) (by decide) (Nat.le_of_ble_eq_true rfl) (Nat.le_of_ble_eq_true rfl) (Nat.le_of_ble_eq_true rfl) dX12_init_171 ?_
  generalize hG41 : ya_nH (N + 20) G40 (20, 4) = G41
  have hl41 : ya_le G40 G41 := by rw [← hG41]; exact ya_le.nH hN40
  have hN41 : G41.1 = N + 21 := by rw [← hG41]; rfl
  have ho41 := ho40.up hl41
  have hs41 : G41.2.1 (N + 20) = (20, 4) := by rw [← hG41]; exact if_pos rfl
  refine ya_dup rfl dX12_init_173 ?_
  refine ya_iconst 0 (by decide) dX12_init_174 ?_
  refine ya_iconst (-1) (by decide) dX12_init_175 ?_
  refine ya_iastX hs41 (by rw [hN41]; omega) (by unfold vp_in; decide) dX12_init_176 ?_
  refine ya_dup rfl dX12_init_177 ?_
  refine ya_iconst 1 (by decide) dX12_init_178 ?_
  refine ya_iconst (-1) (by decide) dX12_init_179 ?_
  refine ya_iastX hs41 (by rw [hN41]; omega) (by unfold vp_in; decide) dX12_init_180 ?_
  refine ya_dup rfl dX12_init_181 ?_
  refine ya_iconst 2 (by decide) dX12_init_182 ?_
  refine ya_iconst (-1) (by decide) dX12_init_183 ?_
  refine ya_iastX hs41 (by rw [hN41]; omega) (by unfold vp_in; decide) dX12_init_184 ?_
  refine ya_dup rfl dX12_init_185 ?_
  refine ya_iconst 3 (by decide) dX12_init_186 ?_
  refine ya_iconst (-1) (by decide) dX12_init_187 ?_
  refine ya_iastX hs41 (by rw [hN41]; omega) (by unfold vp_in; decide) dX12_init_188 ?_
  refine ya_putF fo_X12_76 ho41.1 ho41.2 (.array .int) pg_X12_31 rfl rfl rfl dX12_init_189 ?_
  generalize hG42 : ya_sR G41 a 31 (some (N + 20)) = G42
  have hl42 : ya_le G41 G42 := by rw [← hG42]; exact ya_le.sR
  have hN42 : G42.1 = N + 21 := by rw [← hG42]; exact hN41
  have ho42 := ho41.up hl42
  refine ya_aload_n 0 rfl dX12_init_192 ?_
  refine ya_iconst 4 (by decide) dX12_init_193 ?_
  refine ya_newA (q := (N + 21)) (ka := 20) (N := 4) (by decide) (by decide) rfl wa_20 rfl hN42 (by decide) (by decide) (Nat.le_of_ble_eq_true rfl) (Nat.le_of_ble_eq_true rfl) (Nat.le_of_ble_eq_true rfl) dX12_init_194 ?_
  generalize hG43 : ya_nH (N + 21) G42 (20, 4) = G43
  have hl43 : ya_le G42 G43 := by rw [← hG43]; exact ya_le.nH hN42
  have hN43 : G43.1 = N + 22 := by rw [← hG43]; rfl
  have ho43 := ho42.up hl43
  have hs43 : G43.2.1 (N + 21) = (20, 4) := by rw [← hG43]; exact if_pos rfl
  refine ya_putF fo_X12_79 ho43.1 ho43.2 (.array .int) pg_X12_32 rfl rfl rfl dX12_init_196 ?_
  generalize hG44 : ya_sR G43 a 32 (some (N + 21)) = G44
  have hl44 : ya_le G43 G44 := by rw [← hG44]; exact ya_le.sR
  have hN44 : G44.1 = N + 22 := by rw [← hG44]; exact hN43
  have ho44 := ho43.up hl44
  refine ya_aload_n 0 rfl dX12_init_199 ?_
  refine ya_sipush 240 (by decide) dX12_init_200 ?_
  refine ya_newA (q := (N + 22)) (ka := 24) (N := 240) (by decide) (by decide) rfl wa_24 rfl hN44 (by decide) (by decide) (Nat.le_of_ble_eq_true rfl) (Nat.le_of_ble_eq_true rfl) (Nat.le_of_ble_eq_true rfl) dX12_init_203 ?_
  generalize hG45 : ya_nH (N + 22) G44 (24, 240) = G45
  have hl45 : ya_le G44 G45 := by rw [← hG45]; exact ya_le.nH hN44
  have hN45 : G45.1 = N + 23 := by rw [← hG45]; rfl
  have ho45 := ho44.up hl45
  have hs45 : G45.2.1 (N + 22) = (24, 240) := by rw [← hG45]; exact if_pos rfl
  refine ya_putF fo_X12_82 ho45.1 ho45.2 (.array .long) pg_X12_33 rfl rfl rfl dX12_init_205 ?_
  generalize hG46 : ya_sR G45 a 33 (some (N + 22)) = G46
  have hl46 : ya_le G45 G46 := by rw [← hG46]; exact ya_le.sR
  have hN46 : G46.1 = N + 23 := by rw [← hG46]; exact hN45
  have ho46 := ho45.up hl46
  refine ya_aload_n 0 rfl dX12_init_208 ?_
  refine ya_bipush 60 (by decide) dX12_init_209 ?_
  refine ya_newA (q := (N + 23)) (ka := 24) (N := 60) (by decide) (by decide) rfl wa_24 rfl hN46 (by decide) (by decide) (Nat.le_of_ble_eq_true rfl) (Nat.le_of_ble_eq_true rfl) (Nat.le_of_ble_eq_true rfl) dX12_init_211 ?_
  generalize hG47 : ya_nH (N + 23) G46 (24, 60) = G47
  have hl47 : ya_le G46 G47 := by rw [← hG47]; exact ya_le.nH hN46
  have hN47 : G47.1 = N + 24 := by rw [← hG47]; rfl
  have ho47 := ho46.up hl47
  have hs47 : G47.2.1 (N + 23) = (24, 60) := by rw [← hG47]; exact if_pos rfl
  refine ya_putF fo_X12_86 ho47.1 ho47.2 (.array .long) pg_X12_34 rfl rfl rfl dX12_init_213 ?_
  generalize hG48 : ya_sR G47 a 34 (some (N + 23)) = G48
  have hl48 : ya_le G47 G48 := by rw [← hG48]; exact ya_le.sR
  have hN48 : G48.1 = N + 24 := by rw [← hG48]; exact hN47
  have ho48 := ho47.up hl48
  exact ya_vret rfl rfl rfl rfl rfl (Nat.le_of_ble_eq_true rfl) dX12_init_216
def iG_X4_init (a N : Nat) (G : ya_G) : ya_G := ya_sR (ya_nH (N + 0) (G) (24, 60)) a 0 (some (N + 0))
def iD_X4_init (a N : Nat) (d : ya_D) : ya_D := ya_nE (N + 0) (d)
set_option maxRecDepth 20000 in
theorem iL_X4_init {a N : Nat} {G : ya_G} (hN : G.1 = N) : ya_le G (iG_X4_init a N G) ∧ (iG_X4_init a N G).1 = N + 1 := by
  unfold iG_X4_init
  generalize hG1 : ya_nH (N + 0) G (24, 60) = G1
  have hl1 : ya_le G G1 := by rw [← hG1]; exact ya_le.nH hN
  have hN1 : G1.1 = N + 1 := by rw [← hG1]; rfl
  generalize hG2 : ya_sR G1 a 0 (some (N + 0)) = G2
  have hl2 : ya_le G1 G2 := by rw [← hG2]; exact ya_le.sR
  have hN2 : G2.1 = N + 1 := by rw [← hG2]; exact hN1
  exact ⟨hl1.tr (hl2), hN2⟩
theorem iR_X4_init {a N : Nat} {G : ya_G} (b : Nat) (hb : b < N) (hba : b ≠ a) (k : Nat) : (iG_X4_init a N G).2.2 b k = G.2.2 b k := by
  unfold iG_X4_init
  rw [ya_sR_n hba]
  rw [ya_nH_n (by omega)]
abbrev Y_X4_init : ya_Y := (cX4_init, RX4, 1, none, "<init>", { frames := 1, cells := 1, slots := 60, locals := 20 })
theorem m_X4_init : ya_mI yX4_init Y_X4_init 0 := ⟨⟨⟨by decide +kernel, by decide +kernel, by decide +kernel⟩, (ya_in 124 (by decide +kernel) (by decide +kernel)), (ya_in 1205 (by decide +kernel) (by decide +kernel))⟩, (ya_in 1204 (by decide +kernel) (by decide +kernel)), rfl, rfl⟩
set_option maxHeartbeats 4000000 in
set_option maxRecDepth 20000 in
theorem c_X4_init {X : ya_X} {G : ya_G} {a N : Nat} {d : ya_D} (ho : ya_ob_ G a 4) (hN : G.1 = N) : ya_Ct X yX4_init Y_X4_init [.ref (X.2.1 + a)] G d (none, iG_X4_init a N G, iD_X4_init a N d) := by
  refine ya_ct (by decide +kernel) rfl rfl (Nat.le_of_ble_eq_true rfl) ?_
  show ya_E X Y_X4_init (ya_M X (none, iG_X4_init a N G, iD_X4_init a N d) 1 60) 0 [(0, .ref (X.2.1 + a))] [] G d 0 0
  unfold iG_X4_init iD_X4_init
  refine ya_aload_n 0 rfl dX4_init_0 ?_
  refine ya_obj ml_X4_3 wm_ob1 wm_ob2 (by decide) (Nat.le_of_ble_eq_true rfl) dX4_init_1 ?_
  refine ya_aload_n 0 rfl dX4_init_4 ?_
  refine ya_bipush 60 (by decide) dX4_init_5 ?_
  refine ya_newA (q := (N + 0)) (ka := 24) (N := 60) (by decide) (by decide) rfl wa_24 rfl hN (by decide) (by decide) (Nat.le_of_ble_eq_true rfl) (Nat.le_of_ble_eq_true rfl) (Nat.le_of_ble_eq_true rfl) dX4_init_7 ?_
  generalize hG1 : ya_nH (N + 0) G (24, 60) = G1
  have hl1 : ya_le G G1 := by rw [← hG1]; exact ya_le.nH hN
  have hN1 : G1.1 = N + 1 := by rw [← hG1]; rfl
  have ho1 := ho.up hl1
  have hs1 : G1.2.1 (N + 0) = (24, 60) := by rw [← hG1]; exact if_pos rfl
  refine ya_putF fo_X4_9 ho1.1 ho1.2 (.array .long) pg_X4_0 rfl rfl rfl dX4_init_9 ?_
  generalize hG2 : ya_sR G1 a 0 (some (N + 0)) = G2
  have hl2 : ya_le G1 G2 := by rw [← hG2]; exact ya_le.sR
  have hN2 : G2.1 = N + 1 := by rw [← hG2]; exact hN1
  have ho2 := ho1.up hl2
  exact ya_vret rfl rfl rfl rfl rfl (Nat.le_of_ble_eq_true rfl) dX4_init_12
