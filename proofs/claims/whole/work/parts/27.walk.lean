set_option maxRecDepth 20000 in
theorem w_X12_comeAt_L6 {X : ya_X} {G : ya_G} {v1 : Int32} {v2 : Int32} {v3 : Int32} {d : ya_D} {rr : Int32} (hG : ya_Bk ya_sh ya_ln G 0) : ∀ (n : Nat) (v4 : Int32) (v5 : Int32), f_X12_comeAt_L6 v1 v2 v3 d n v4 v5 = some rr → ya_E X Y_X12_comeAt (ya_M X (some (.int rr), G, d) 0 0) 6 [(0, .ref (X.2.1 + 83)), (1, .int v1), (2, .int v2), (3, .int v3), (4, .int v4), (5, .int v5)] [] G d 0 0 := by
  intro n
  induction n with
  | zero => intro v4 v5 h; cases h
  | succ n ih =>
    intro v4 v5 h
    rw [f_X12_comeAt_L6] at h
    refine ya_iload 5 rfl dX12_comeAt_6 ?_
    refine ya_aload_n 0 rfl dX12_comeAt_8 ?_
    refine ya_getR fo_X12_9 (hG.o0 83 rfl) (hG.lt0 83 (by decide)) (hG.l0 82 rfl) dX12_comeAt_9 ?_
    refine ya_iconst 3 (by decide) dX12_comeAt_12 ?_
    refine ya_iald (hG.s0 84 rfl) (hG.lt0 84 (by decide)) dX12_comeAt_13 h (fun x13 h => ?_)
    refine ya_icmp_ge 79 (by decide) dX12_comeAt_14 (fun c => ?_) (fun c => ?_)
    · replace h := ya_itet h c
      refine ya_iload 4 rfl dX12_comeAt_79 ?_
      cases h
      exact ya_iret rfl rfl rfl rfl rfl (Nat.le_refl _) dX12_comeAt_81
    · replace h := ya_itef h c
      refine ya_iload 4 rfl dX12_comeAt_17 ?_
      refine ya_aload_n 0 rfl dX12_comeAt_19 ?_
      refine ya_iload 5 rfl dX12_comeAt_20 ?_
      refine ya_iconst 0 (by decide) dX12_comeAt_22 ?_
      obtain ⟨x23, e23, h⟩ := ya_ob h
      refine ya_callVi (S := [.int v4]) (c_X12_of hG e23) m_X12_of ⟨rfl, rfl⟩ ml_X12_260 rfl ⟨Nat.le_of_ble_eq_true rfl, Nat.le_of_ble_eq_true rfl⟩ (Nat.le_of_ble_eq_true rfl) (hG.lt0 83 (by decide)) (hG.o0 83 rfl) (by decide) rfl rfl ⟨Nat.le_refl _, Nat.le_refl _⟩ dX12_comeAt_23 rfl ?_
      refine ya_iload_n 1 rfl dX12_comeAt_26 ?_
      refine ya_j1_s h (fun t0_70 => ya_E X Y_X12_comeAt (ya_M X (some (.int rr), G, d) 0 0) 70 [(0, .ref (X.2.1 + 83)), (1, .int v1), (2, .int v2), (3, .int v3), (5, .int v5)] [.int t0_70, .int v4] G d 0 0) (fun t0_70 h => ?_) (fun k70 hk70 h => ?_)
      · refine ya_iadd dX12_comeAt_70 ?_
        refine ya_istore [(4, .int (v4 + t0_70)), (0, .ref (X.2.1 + 83)), (1, .int v1), (2, .int v2), (3, .int v3), (5, .int v5)] (by decide) rfl dX12_comeAt_71 ?_
        refine ya_iinc (v5 + 1) rfl 5 rfl [(5, .int (v5 + 1)), (4, .int (v4 + t0_70)), (0, .ref (X.2.1 + 83)), (1, .int v1), (2, .int v2), (3, .int v3)] (by decide) rfl dX12_comeAt_73 ?_
        refine ya_goto 6 (by decide) dX12_comeAt_76 ?_
        refine ya_sub [(0, .ref (X.2.1 + 83)), (1, .int v1), (2, .int v2), (3, .int v3), (4, .int (v4 + t0_70)), (5, .int (v5 + 1))] [2, 3, 4, 5, 1, 0] rfl ?_
        exact ih _ _ h
      · refine ya_j0_s h (ya_E X Y_X12_comeAt (ya_M X (some (.int rr), G, d) 0 0) 69 [(0, .ref (X.2.1 + 83)), (1, .int v1), (2, .int v2), (3, .int v3), (5, .int v5)] [.int v4] G d 0 0) (fun h => ?_) (fun k69 hk69 h => ?_)
        · refine ya_iconst 0 (by decide) dX12_comeAt_69 ?_
          exact hk70 _ h
        · refine ya_icmp_ne 69 (by decide) dX12_comeAt_27 (fun c => ?_) (fun c => ?_)
          · replace h := ya_itef h c
            refine ya_sub [(0, .ref (X.2.1 + 83)), (1, .int v1), (2, .int v2), (3, .int v3), (5, .int v5)] [0, 1, 2, 3, 5] rfl ?_
            exact hk69  h
          · replace h := ya_itet h c
            refine ya_iload_n 2 rfl dX12_comeAt_30 ?_
            refine ya_i2l dX12_comeAt_31 ?_
            refine ya_aload_n 0 rfl dX12_comeAt_32 ?_
            refine ya_iload 5 rfl dX12_comeAt_33 ?_
            refine ya_iconst 3 (by decide) dX12_comeAt_35 ?_
            obtain ⟨x36, e36, h⟩ := ya_ob h
            refine ya_callVi (S := [.long ((v2).toInt64), .int v4]) (c_X12_of hG e36) m_X12_of ⟨rfl, rfl⟩ ml_X12_260 rfl ⟨Nat.le_of_ble_eq_true rfl, Nat.le_of_ble_eq_true rfl⟩ (Nat.le_of_ble_eq_true rfl) (hG.lt0 83 (by decide)) (hG.o0 83 rfl) (by decide) rfl rfl ⟨Nat.le_refl _, Nat.le_refl _⟩ dX12_comeAt_36 rfl ?_
            refine ya_i2l dX12_comeAt_39 ?_
            refine ya_aload_n 0 rfl dX12_comeAt_40 ?_
            refine ya_iload 5 rfl dX12_comeAt_41 ?_
            refine ya_iconst 4 (by decide) dX12_comeAt_43 ?_
            obtain ⟨x44, e44, h⟩ := ya_ob h
            refine ya_callVi (S := [.long ((x36).toInt64), .long ((v2).toInt64), .int v4]) (c_X12_of hG e44) m_X12_of ⟨rfl, rfl⟩ ml_X12_260 rfl ⟨Nat.le_of_ble_eq_true rfl, Nat.le_of_ble_eq_true rfl⟩ (Nat.le_of_ble_eq_true rfl) (hG.lt0 83 (by decide)) (hG.o0 83 rfl) (by decide) rfl rfl ⟨Nat.le_refl _, Nat.le_refl _⟩ dX12_comeAt_44 rfl ?_
            refine ya_i2l dX12_comeAt_47 ?_
            obtain ⟨x48, e48, h⟩ := ya_ob h
            refine ya_callSi (S := [.int v4]) (c_X12_in hG e48) m_X12_in ⟨rfl, rfl⟩ ml_X12_94 rfl ⟨Nat.le_of_ble_eq_true rfl, Nat.le_of_ble_eq_true rfl⟩ (Nat.le_of_ble_eq_true rfl) ⟨Nat.le_refl _, Nat.le_refl _⟩ dX12_comeAt_48 rfl ?_
            refine ya_ifeq 69 (by decide) dX12_comeAt_51 (fun c => ?_) (fun c => ?_)
            · replace h := ya_itet h c
              refine ya_sub [(0, .ref (X.2.1 + 83)), (1, .int v1), (2, .int v2), (3, .int v3), (5, .int v5)] [0, 1, 2, 3, 5] rfl ?_
              exact hk69  h
            · replace h := ya_itef h c
              refine ya_aload_n 0 rfl dX12_comeAt_54 ?_
              refine ya_iload 5 rfl dX12_comeAt_55 ?_
              refine ya_iconst 2 (by decide) dX12_comeAt_57 ?_
              obtain ⟨x58, e58, h⟩ := ya_ob h
              refine ya_callVi (S := [.int v4]) (c_X12_of hG e58) m_X12_of ⟨rfl, rfl⟩ ml_X12_260 rfl ⟨Nat.le_of_ble_eq_true rfl, Nat.le_of_ble_eq_true rfl⟩ (Nat.le_of_ble_eq_true rfl) (hG.lt0 83 (by decide)) (hG.o0 83 rfl) (by decide) rfl rfl ⟨Nat.le_refl _, Nat.le_refl _⟩ dX12_comeAt_58 rfl ?_
              refine ya_iload_n 3 rfl dX12_comeAt_61 ?_
              refine ya_icmp_lt 69 (by decide) dX12_comeAt_62 (fun c => ?_) (fun c => ?_)
              · replace h := ya_itet h c
                refine ya_sub [(0, .ref (X.2.1 + 83)), (1, .int v1), (2, .int v2), (3, .int v3), (5, .int v5)] [0, 1, 2, 3, 5] rfl ?_
                exact hk69  h
              · replace h := ya_itef h c
                refine ya_iconst 1 (by decide) dX12_comeAt_65 ?_
                refine ya_goto 70 (by decide) dX12_comeAt_66 ?_
                refine ya_sub [(0, .ref (X.2.1 + 83)), (1, .int v1), (2, .int v2), (3, .int v3), (5, .int v5)] [0, 1, 2, 3, 5] rfl ?_
                exact hk70 _ h
set_option maxRecDepth 20000 in
theorem c_X12_comeAt {X : ya_X} {G : ya_G} {v1 : Int32} {v2 : Int32} {v3 : Int32} {d : ya_D} {rr : Int32} (hG : ya_Bk ya_sh ya_ln G 0) (h : f_X12_comeAt v1 v2 v3 d = some rr) : ya_Ct X yX12_comeAt Y_X12_comeAt [.ref (X.2.1 + 83), .int v1, .int v2, .int v3] G d (some (.int rr), G, d) := by
  refine ya_ct (by decide +kernel) rfl rfl (Nat.le_of_ble_eq_true rfl) ?_
  unfold f_X12_comeAt at h
  show ya_E X Y_X12_comeAt (ya_M X (some (.int rr), G, d) 0 0) 0 [(0, .ref (X.2.1 + 83)), (1, .int v1), (2, .int v2), (3, .int v3)] [] G d 0 0
  refine ya_iconst 0 (by decide) dX12_comeAt_0 ?_
  refine ya_istore [(4, .int 0), (0, .ref (X.2.1 + 83)), (1, .int v1), (2, .int v2), (3, .int v3)] (by decide) rfl dX12_comeAt_1 ?_
  refine ya_iconst 0 (by decide) dX12_comeAt_3 ?_
  refine ya_istore [(5, .int 0), (4, .int 0), (0, .ref (X.2.1 + 83)), (1, .int v1), (2, .int v2), (3, .int v3)] (by decide) rfl dX12_comeAt_4 ?_
  refine ya_sub [(0, .ref (X.2.1 + 83)), (1, .int v1), (2, .int v2), (3, .int v3), (4, .int 0), (5, .int 0)] [2, 3, 4, 5, 1, 0] rfl ?_
  refine w_X12_comeAt_L6 hG  ya_F _ _ h
set_option maxRecDepth 20000 in
theorem c_X12_come {X : ya_X} {G : ya_G} {v1 : Int32} {v2 : Int32} {v3 : Int32} {d : ya_D} {rr : Int32} (hG : ya_Bk ya_sh ya_ln G 0) (h : f_X12_come v1 v2 v3 d = some rr) : ya_Ct X yX12_come Y_X12_come [.ref (X.2.1 + 83), .int v1, .int v2, .int v3] G d (some (.int rr), G, d) := by
  refine ya_ct (by decide +kernel) rfl rfl (Nat.le_of_ble_eq_true rfl) ?_
  unfold f_X12_come at h
  show ya_E X Y_X12_come (ya_M X (some (.int rr), G, d) 0 0) 0 [(0, .ref (X.2.1 + 83)), (1, .int v1), (2, .int v2), (3, .int v3)] [] G d 0 0
  refine ya_aload_n 0 rfl dX12_come_0 ?_
  refine ya_iload_n 1 rfl dX12_come_1 ?_
  refine ya_iload_n 2 rfl dX12_come_2 ?_
  obtain ⟨x3, e3, h⟩ := ya_ob h
  refine ya_callVi (S := []) (c_X12_areSo hG e3) m_X12_areSo ⟨rfl, rfl⟩ ml_X12_307 rfl ⟨Nat.le_of_ble_eq_true rfl, Nat.le_of_ble_eq_true rfl⟩ (Nat.le_of_ble_eq_true rfl) (hG.lt0 83 (by decide)) (hG.o0 83 rfl) (by decide) rfl rfl ⟨Nat.le_refl _, Nat.le_refl _⟩ dX12_come_3 rfl ?_
  refine ya_j0_s h (ya_E X Y_X12_come (ya_M X (some (.int rr), G, d) 0 0) 31 [] [] G d 0 0) (fun h => ?_) (fun k31 hk31 h => ?_)
  · refine ya_bipush (-2) (by decide) dX12_come_31 ?_
    cases h
    exact ya_iret rfl rfl rfl rfl rfl (Nat.le_refl _) dX12_come_33
  · refine ya_ifeq 31 (by decide) dX12_come_6 (fun c => ?_) (fun c => ?_)
    · replace h := ya_itet h c
      refine ya_sub [] [] rfl ?_
      exact hk31  h
    · replace h := ya_itef h c
      refine ya_iload_n 3 rfl dX12_come_9 ?_
      refine ya_i2l dX12_come_10 ?_
      refine ya_lconst 0 rfl dX12_come_11 ?_
      refine ya_ldc2 99 kc_X12_356 dX12_come_12 ?_
      obtain ⟨x15, e15, h⟩ := ya_ob h
      refine ya_callSi (S := []) (c_X12_in hG e15) m_X12_in ⟨rfl, rfl⟩ ml_X12_94 rfl ⟨Nat.le_of_ble_eq_true rfl, Nat.le_of_ble_eq_true rfl⟩ (Nat.le_of_ble_eq_true rfl) ⟨Nat.le_refl _, Nat.le_refl _⟩ dX12_come_15 rfl ?_
      refine ya_ifeq 31 (by decide) dX12_come_18 (fun c => ?_) (fun c => ?_)
      · replace h := ya_itet h c
        refine ya_sub [] [] rfl ?_
        exact hk31  h
      · replace h := ya_itef h c
        refine ya_aload_n 0 rfl dX12_come_21 ?_
        refine ya_iload_n 1 rfl dX12_come_22 ?_
        refine ya_iload_n 2 rfl dX12_come_23 ?_
        refine ya_iload_n 3 rfl dX12_come_24 ?_
        obtain ⟨x25, e25, h⟩ := ya_ob h
        refine ya_callVi (S := []) (c_X12_comeAt hG e25) m_X12_comeAt ⟨rfl, rfl⟩ ml_X12_377 rfl ⟨Nat.le_of_ble_eq_true rfl, Nat.le_of_ble_eq_true rfl⟩ (Nat.le_of_ble_eq_true rfl) (hG.lt0 83 (by decide)) (hG.o0 83 rfl) (by decide) rfl rfl ⟨Nat.le_refl _, Nat.le_refl _⟩ dX12_come_25 rfl ?_
        refine ya_goto 33 (by decide) dX12_come_28 ?_
        cases h
        exact ya_iret rfl rfl rfl rfl rfl (Nat.le_refl _) dX12_come_33
set_option maxRecDepth 20000 in
theorem c_X12_numberAt {X : ya_X} {G : ya_G} {v1 : Int32} {v2 : Int32} {d : ya_D} {rr : Int64} (hG : ya_Bk ya_sh ya_ln G 0) (h : f_X12_numberAt v1 v2 d = some rr) : ya_Ct X yX12_numberAt Y_X12_numberAt [.ref (X.2.1 + 83), .int v1, .int v2] G d (some (.long rr), G, d) := by
  refine ya_ct (by decide +kernel) rfl rfl (Nat.le_of_ble_eq_true rfl) ?_
  unfold f_X12_numberAt at h
  show ya_E X Y_X12_numberAt (ya_M X (some (.long rr), G, d) 0 0) 0 [(0, .ref (X.2.1 + 83)), (1, .int v1), (2, .int v2)] [] G d 0 0
  refine ya_aload_n 0 rfl dX12_numberAt_0 ?_
  refine ya_getR fo_X12_82 (hG.o0 83 rfl) (hG.lt0 83 (by decide)) (hG.l0 104 rfl) dX12_numberAt_1 ?_
  refine ya_bipush 60 (by decide) dX12_numberAt_4 ?_
  refine ya_iload_n 1 rfl dX12_numberAt_6 ?_
  refine ya_imul dX12_numberAt_7 ?_
  refine ya_iload_n 2 rfl dX12_numberAt_8 ?_
  refine ya_iadd dX12_numberAt_9 ?_
  refine ya_lald (hG.s0 106 rfl) (hG.lt0 106 (by decide)) dX12_numberAt_10 h (fun x10 h => ?_)
  cases h
  exact ya_lret rfl rfl rfl rfl rfl (Nat.le_refl _) dX12_numberAt_11
set_option maxRecDepth 20000 in
theorem c_X12_isSlot {X : ya_X} {G : ya_G} {v0 : Int32} {d : ya_D} {rr : Int32} (hG : ya_Bk ya_sh ya_ln G 0) (h : f_X12_isSlot v0 = some rr) : ya_Ct X yX12_isSlot Y_X12_isSlot [.int v0] G d (some (.int rr), G, d) := by
  refine ya_ct (by decide +kernel) rfl rfl (Nat.le_of_ble_eq_true rfl) ?_
  unfold f_X12_isSlot at h
  show ya_E X Y_X12_isSlot (ya_M X (some (.int rr), G, d) 0 0) 0 [(0, .int v0)] [] G d 0 0
  refine ya_iload_n 0 rfl dX12_isSlot_0 ?_
  refine ya_i2l dX12_isSlot_1 ?_
  refine ya_lconst 0 rfl dX12_isSlot_2 ?_
  refine ya_ldc2 3 kc_X12_333 dX12_isSlot_3 ?_
  obtain ⟨x6, e6, h⟩ := ya_ob h
  refine ya_callSi (S := []) (c_X12_in hG e6) m_X12_in ⟨rfl, rfl⟩ ml_X12_94 rfl ⟨Nat.le_of_ble_eq_true rfl, Nat.le_of_ble_eq_true rfl⟩ (Nat.le_of_ble_eq_true rfl) ⟨Nat.le_refl _, Nat.le_refl _⟩ dX12_isSlot_6 rfl ?_
  refine ya_zretb dX12_isSlot_9 h (fun hz h => ?_)
  cases h
  exact ya_zret .boolean rfl rfl rfl rfl hz rfl (Nat.le_refl _) dX12_isSlot_9
set_option maxRecDepth 20000 in
theorem w_X12_asksCrowds_L43 {X : ya_X} {G : ya_G} {v1 : Int32} {d : ya_D} {rr : Int32} {e81 : Option Int32} (hG : ya_Bk ya_sh ya_ln G 0) (he81 : e81  = some rr → ya_E X Y_X12_asksCrowds (ya_M X (some (.int rr), G, d) 0 0) 81 [] [] G d 0 0) : ∀ (n : Nat) (v3 : Int32), f_X12_asksCrowds_L43 v1 d e81 n v3 = some rr → ya_E X Y_X12_asksCrowds (ya_M X (some (.int rr), G, d) 0 0) 43 [(0, .ref (X.2.1 + 83)), (1, .int v1), (3, .int v3)] [] G d 0 0 := by
  intro n
  induction n with
  | zero => intro v3 h; cases h
  | succ n ih =>
    intro v3 h
    rw [f_X12_asksCrowds_L43] at h
    refine ya_iload_n 2 rfl dX12_asksCrowds_43 ?_
    refine ya_aload_n 0 rfl dX12_asksCrowds_44 ?_
    refine ya_getR fo_X12_76 (hG.o0 83 rfl) (hG.lt0 83 (by decide)) (hG.l0 102 rfl) dX12_asksCrowds_45 ?_
    refine ya_iload_n 1 rfl dX12_asksCrowds_48 ?_
    refine ya_iald (hG.s0 104 rfl) (hG.lt0 104 (by decide)) dX12_asksCrowds_49 h (fun x49 h => ?_)
    refine ya_icmp_ge 90 (by decide) dX12_asksCrowds_50 (fun c => ?_) (fun c => ?_)
    · replace h := ya_itet h c
      refine ya_iconst 0 (by decide) dX12_asksCrowds_90 ?_
      cases h
      exact ya_iret rfl rfl rfl rfl rfl (Nat.le_refl _) dX12_asksCrowds_91
    · replace h := ya_itef h c
      refine ya_aload_n 0 rfl dX12_asksCrowds_53 ?_
      refine ya_aload_n 0 rfl dX12_asksCrowds_54 ?_
      refine ya_iload_n 1 rfl dX12_asksCrowds_55 ?_
      refine ya_iload_n 2 rfl dX12_asksCrowds_56 ?_
      obtain ⟨x57, e57, h⟩ := ya_ob h
      refine ya_callVl (S := [.ref (X.2.1 + 83)]) (c_X12_numberAt hG e57) m_X12_numberAt ⟨rfl, rfl⟩ ml_X12_383 rfl ⟨Nat.le_of_ble_eq_true rfl, Nat.le_of_ble_eq_true rfl⟩ (Nat.le_of_ble_eq_true rfl) (hG.lt0 83 (by decide)) (hG.o0 83 rfl) (by decide) rfl rfl ⟨Nat.le_refl _, Nat.le_refl _⟩ dX12_asksCrowds_57 rfl ?_
      obtain ⟨x60, e60, h⟩ := ya_ob h
      refine ya_callVi (S := []) (c_X12_isThing hG e60) m_X12_isThing ⟨rfl, rfl⟩ ml_X12_98 rfl ⟨Nat.le_of_ble_eq_true rfl, Nat.le_of_ble_eq_true rfl⟩ (Nat.le_of_ble_eq_true rfl) (hG.lt0 83 (by decide)) (hG.o0 83 rfl) (by decide) rfl rfl ⟨Nat.le_refl _, Nat.le_refl _⟩ dX12_asksCrowds_60 rfl ?_
      refine ya_ifeq 81 (by decide) dX12_asksCrowds_63 (fun c => ?_) (fun c => ?_)
      · replace h := ya_itet h c
        refine ya_sub [] [] rfl ?_
        exact he81  h
      · replace h := ya_itef h c
        refine ya_aload_n 0 rfl dX12_asksCrowds_66 ?_
        refine ya_aload_n 0 rfl dX12_asksCrowds_67 ?_
        refine ya_iload_n 1 rfl dX12_asksCrowds_68 ?_
        refine ya_iload_n 2 rfl dX12_asksCrowds_69 ?_
        refine ya_iconst 1 (by decide) dX12_asksCrowds_70 ?_
        refine ya_iadd dX12_asksCrowds_71 ?_
        obtain ⟨x72, e72, h⟩ := ya_ob h
        refine ya_callVl (S := [.ref (X.2.1 + 83)]) (c_X12_numberAt hG e72) m_X12_numberAt ⟨rfl, rfl⟩ ml_X12_383 rfl ⟨Nat.le_of_ble_eq_true rfl, Nat.le_of_ble_eq_true rfl⟩ (Nat.le_of_ble_eq_true rfl) (hG.lt0 83 (by decide)) (hG.o0 83 rfl) (by decide) rfl rfl ⟨Nat.le_refl _, Nat.le_refl _⟩ dX12_asksCrowds_72 rfl ?_
        obtain ⟨x75, e75, h⟩ := ya_ob h
        refine ya_callVi (S := []) (c_X12_isDay hG e75) m_X12_isDay ⟨rfl, rfl⟩ ml_X12_102 rfl ⟨Nat.le_of_ble_eq_true rfl, Nat.le_of_ble_eq_true rfl⟩ (Nat.le_of_ble_eq_true rfl) (hG.lt0 83 (by decide)) (hG.o0 83 rfl) (by decide) rfl rfl ⟨Nat.le_refl _, Nat.le_refl _⟩ dX12_asksCrowds_75 rfl ?_
        refine ya_ifne 84 (by decide) dX12_asksCrowds_78 (fun c => ?_) (fun c => ?_)
        · replace h := ya_itef h c
          refine ya_iinc (v3 + 3) rfl 2 rfl [(3, .int (v3 + 3)), (0, .ref (X.2.1 + 83)), (1, .int v1)] (by decide) rfl dX12_asksCrowds_84 ?_
          refine ya_goto 43 (by decide) dX12_asksCrowds_87 ?_
          refine ya_sub [(0, .ref (X.2.1 + 83)), (1, .int v1), (3, .int (v3 + 3))] [1, 2, 0] rfl ?_
          exact ih _ h
        · replace h := ya_itet h c
          refine ya_sub [] [] rfl ?_
          exact he81  h
set_option maxRecDepth 20000 in
theorem c_X12_asksCrowds {X : ya_X} {G : ya_G} {v1 : Int32} {v2 : Int32} {d : ya_D} {rr : Int32} (hG : ya_Bk ya_sh ya_ln G 0) (h : f_X12_asksCrowds v1 v2 d = some rr) : ya_Ct X yX12_asksCrowds Y_X12_asksCrowds [.ref (X.2.1 + 83), .int v1, .int v2] G d (some (.int rr), G, d) := by
  refine ya_ct (by decide +kernel) rfl rfl (Nat.le_of_ble_eq_true rfl) ?_
  unfold f_X12_asksCrowds at h
  show ya_E X Y_X12_asksCrowds (ya_M X (some (.int rr), G, d) 0 0) 0 [(0, .ref (X.2.1 + 83)), (1, .int v1), (2, .int v2)] [] G d 0 0
  refine ya_iload_n 1 rfl dX12_asksCrowds_0 ?_
  obtain ⟨x1, e1, h⟩ := ya_ob h
  refine ya_callSi (S := []) (c_X12_isSlot hG e1) m_X12_isSlot ⟨rfl, rfl⟩ ml_X12_380 rfl ⟨Nat.le_of_ble_eq_true rfl, Nat.le_of_ble_eq_true rfl⟩ (Nat.le_of_ble_eq_true rfl) ⟨Nat.le_refl _, Nat.le_refl _⟩ dX12_asksCrowds_1 rfl ?_
  refine ya_j0_s h (ya_E X Y_X12_asksCrowds (ya_M X (some (.int rr), G, d) 0 0) 11 [] [] G d 0 0) (fun h => ?_) (fun k11 hk11 h => ?_)
  · refine ya_bipush (-2) (by decide) dX12_asksCrowds_11 ?_
    cases h
    exact ya_iret rfl rfl rfl rfl rfl (Nat.le_refl _) dX12_asksCrowds_13
  · refine ya_ifeq 11 (by decide) dX12_asksCrowds_4 (fun c => ?_) (fun c => ?_)
    · replace h := ya_itet h c
      refine ya_sub [] [] rfl ?_
      exact hk11  h
    · replace h := ya_itef h c
      refine ya_iload_n 2 rfl dX12_asksCrowds_7 ?_
      refine ya_ifne 14 (by decide) dX12_asksCrowds_8 (fun c => ?_) (fun c => ?_)
      · replace h := ya_itef h c
        refine ya_aload_n 0 rfl dX12_asksCrowds_14 ?_
        refine ya_getR fo_X12_76 (hG.o0 83 rfl) (hG.lt0 83 (by decide)) (hG.l0 102 rfl) dX12_asksCrowds_15 ?_
        refine ya_iload_n 1 rfl dX12_asksCrowds_18 ?_
        refine ya_iald (hG.s0 104 rfl) (hG.lt0 104 (by decide)) dX12_asksCrowds_19 h (fun x19 h => ?_)
        refine ya_iconst (-1) (by decide) dX12_asksCrowds_20 ?_
        refine ya_icmp_ne 27 (by decide) dX12_asksCrowds_21 (fun c => ?_) (fun c => ?_)
        · replace h := ya_itef h c
          refine ya_aload_n 0 rfl dX12_asksCrowds_27 ?_
          refine ya_getR fo_X12_76 (hG.o0 83 rfl) (hG.lt0 83 (by decide)) (hG.l0 102 rfl) dX12_asksCrowds_28 ?_
          refine ya_iload_n 1 rfl dX12_asksCrowds_31 ?_
          refine ya_iald (hG.s0 104 rfl) (hG.lt0 104 (by decide)) dX12_asksCrowds_32 h (fun x32 h => ?_)
          refine ya_iconst 3 (by decide) dX12_asksCrowds_33 ?_
          refine ya_irem (by decide) dX12_asksCrowds_34 ?_
          refine ya_ifeq 41 (by decide) dX12_asksCrowds_35 (fun c => ?_) (fun c => ?_)
          · replace h := ya_itet h c
            refine ya_iconst 0 (by decide) dX12_asksCrowds_41 ?_
            refine ya_istore_n [(3, .int 0), (0, .ref (X.2.1 + 83)), (1, .int v1), (2, .int v2)] (by decide) rfl dX12_asksCrowds_42 ?_
            refine ya_sub [(0, .ref (X.2.1 + 83)), (1, .int v1), (3, .int 0)] [1, 2, 0] rfl ?_
            refine w_X12_asksCrowds_L43 hG (fun  h => ?_) ya_F _ h
            refine ya_bipush (-2) (by decide) dX12_asksCrowds_81 ?_
            cases h
            exact ya_iret rfl rfl rfl rfl rfl (Nat.le_refl _) dX12_asksCrowds_83
          · replace h := ya_itef h c
            refine ya_bipush (-2) (by decide) dX12_asksCrowds_38 ?_
            cases h
            exact ya_iret rfl rfl rfl rfl rfl (Nat.le_refl _) dX12_asksCrowds_40
        · replace h := ya_itet h c
          refine ya_bipush (-6) (by decide) dX12_asksCrowds_24 ?_
          cases h
          exact ya_iret rfl rfl rfl rfl rfl (Nat.le_refl _) dX12_asksCrowds_26
      · replace h := ya_itet h c
        refine ya_sub [] [] rfl ?_
        exact hk11  h
set_option maxRecDepth 20000 in
theorem w_X12_agrees_L3 {X : ya_X} {G : ya_G} {v1 : Int32} {v2 : Int32} {v3 : Int32} {v4 : Int32} {d : ya_D} {rr : Int32} (hG : ya_Bk ya_sh ya_ln G 0) : ∀ (n : Nat) (v5 : Int32), f_X12_agrees_L3 v1 v2 v3 v4 d n v5 = some rr → ya_E X Y_X12_agrees (ya_M X (some (.int rr), G, d) 0 0) 3 [(0, .ref (X.2.1 + 83)), (1, .int v1), (2, .int v2), (3, .int v3), (4, .int v4), (5, .int v5)] [] G d 0 0 := by
  intro n
  induction n with
  | zero => intro v5 h; cases h
  | succ n ih =>
    intro v5 h
    rw [f_X12_agrees_L3] at h
    refine ya_iload 5 rfl dX12_agrees_3 ?_
    refine ya_aload_n 0 rfl dX12_agrees_5 ?_
    refine ya_getR fo_X12_76 (hG.o0 83 rfl) (hG.lt0 83 (by decide)) (hG.l0 102 rfl) dX12_agrees_6 ?_
    refine ya_iload_n 1 rfl dX12_agrees_9 ?_
    refine ya_iald (hG.s0 104 rfl) (hG.lt0 104 (by decide)) dX12_agrees_10 h (fun x10 h => ?_)
    refine ya_icmp_ge 84 (by decide) dX12_agrees_11 (fun c => ?_) (fun c => ?_)
    · replace h := ya_itet h c
      refine ya_iconst 1 (by decide) dX12_agrees_84 ?_
      cases h
      exact ya_zret .boolean rfl rfl rfl rfl (by decide) rfl (Nat.le_refl _) dX12_agrees_85
    · replace h := ya_itef h c
      refine ya_aload_n 0 rfl dX12_agrees_14 ?_
      refine ya_iload_n 1 rfl dX12_agrees_15 ?_
      refine ya_iload 5 rfl dX12_agrees_16 ?_
      obtain ⟨x18, e18, h⟩ := ya_ob h
      refine ya_callVl (S := []) (c_X12_numberAt hG e18) m_X12_numberAt ⟨rfl, rfl⟩ ml_X12_383 rfl ⟨Nat.le_of_ble_eq_true rfl, Nat.le_of_ble_eq_true rfl⟩ (Nat.le_of_ble_eq_true rfl) (hG.lt0 83 (by decide)) (hG.o0 83 rfl) (by decide) rfl rfl ⟨Nat.le_refl _, Nat.le_refl _⟩ dX12_agrees_18 rfl ?_
      refine ya_iload_n 2 rfl dX12_agrees_21 ?_
      refine ya_i2l dX12_agrees_22 ?_
      refine ya_j1_s h (fun t0_47 => ya_E X Y_X12_agrees (ya_M X (some (.int rr), G, d) 0 0) 47 [(0, .ref (X.2.1 + 83)), (1, .int v1), (2, .int v2), (3, .int v3), (4, .int v4), (5, .int v5)] [.int t0_47] G d 0 0) (fun t0_47 h => ?_) (fun k47 hk47 h => ?_)
      · refine ya_istore [(6, .int t0_47), (0, .ref (X.2.1 + 83)), (1, .int v1), (2, .int v2), (3, .int v3), (4, .int v4), (5, .int v5)] (by decide) rfl dX12_agrees_47 ?_
        refine ya_iload 0 rfl dX12_agrees_49 ?_
        refine ya_j0_s h (ya_E X Y_X12_agrees (ya_M X (some (.int rr), G, d) 0 0) 78 [(0, .ref (X.2.1 + 83)), (1, .int v1), (2, .int v2), (3, .int v3), (4, .int v4), (5, .int v5)] [] G d 0 0) (fun h => ?_) (fun k78 hk78 h => ?_)
        · refine ya_iinc (v5 + 3) rfl 5 rfl [(5, .int (v5 + 3)), (0, .ref (X.2.1 + 83)), (1, .int v1), (2, .int v2), (3, .int v3), (4, .int v4)] (by decide) rfl dX12_agrees_78 ?_
          refine ya_goto 3 (by decide) dX12_agrees_81 ?_
          refine ya_sub [(0, .ref (X.2.1 + 83)), (1, .int v1), (2, .int v2), (3, .int v3), (4, .int v4), (5, .int (v5 + 3))] [1, 2, 3, 4, 5, 0] rfl ?_
          exact ih _ h
        · refine ya_ifeq 78 (by decide) dX12_agrees_51 (fun c => ?_) (fun c => ?_)
          · replace h := ya_itet h c
            refine ya_sub [(0, .ref (X.2.1 + 83)), (1, .int v1), (2, .int v2), (3, .int v3), (4, .int v4), (5, .int v5)] [1, 2, 3, 4, 5, 6] rfl ?_
            exact hk78  h
          · replace h := ya_itef h c
            refine ya_aload_n 1 rfl dX12_agrees_54 ?_
            refine ya_iload_n 3 rfl dX12_agrees_55 ?_
            refine ya_iload_n 4 rfl dX12_agrees_56 ?_
            refine ya_iload 5 rfl dX12_agrees_57 ?_
            obtain ⟨x59, e59, h⟩ := ya_ob h
            refine ya_callVi (S := []) (c_X12_comeAt hG e59) m_X12_comeAt ⟨rfl, rfl⟩ ml_X12_377 rfl ⟨Nat.le_of_ble_eq_true rfl, Nat.le_of_ble_eq_true rfl⟩ (Nat.le_of_ble_eq_true rfl) (hG.lt0 83 (by decide)) (hG.o0 83 rfl) (by decide) rfl rfl ⟨Nat.le_refl _, Nat.le_refl _⟩ dX12_agrees_59 rfl ?_
            refine ya_i2l dX12_agrees_62 ?_
            refine ya_aload_n 1 rfl dX12_agrees_63 ?_
            refine ya_iload_n 2 rfl dX12_agrees_64 ?_
            refine ya_iload 6 rfl dX12_agrees_65 ?_
            refine ya_iconst 2 (by decide) dX12_agrees_67 ?_
            refine ya_iadd dX12_agrees_68 ?_
            obtain ⟨x69, e69, h⟩ := ya_ob h
            refine ya_callVl (S := [.long ((x59).toInt64)]) (c_X12_numberAt hG e69) m_X12_numberAt ⟨rfl, rfl⟩ ml_X12_383 rfl ⟨Nat.le_of_ble_eq_true rfl, Nat.le_of_ble_eq_true rfl⟩ (Nat.le_of_ble_eq_true rfl) (hG.lt0 83 (by decide)) (hG.o0 83 rfl) (by decide) rfl rfl ⟨Nat.le_refl _, Nat.le_refl _⟩ dX12_agrees_69 rfl ?_
            refine ya_lif_eq 78 (by decide) dX12_agrees_72 dX12_agrees_73 (fun c => ?_) (fun c => ?_)
            · replace h := ya_itet h c
              refine ya_sub [(0, .ref (X.2.1 + 83)), (1, .int v1), (2, .int v2), (3, .int v3), (4, .int v4), (5, .int v5)] [1, 2, 3, 4, 5, 6] rfl ?_
              exact hk78  h
            · replace h := ya_itef h c
              refine ya_iconst 0 (by decide) dX12_agrees_76 ?_
              cases h
              exact ya_zret .boolean rfl rfl rfl rfl (by decide) rfl (Nat.le_refl _) dX12_agrees_77
      · refine ya_j0_s h (ya_E X Y_X12_agrees (ya_M X (some (.int rr), G, d) 0 0) 46 [(0, .ref (X.2.1 + 83)), (1, .int v1), (2, .int v2), (3, .int v3), (4, .int v4), (5, .int v5)] [] G d 0 0) (fun h => ?_) (fun k46 hk46 h => ?_)
        · refine ya_iconst 0 (by decide) dX12_agrees_46 ?_
          exact hk47 _ h
        · refine ya_lif_ne 46 (by decide) dX12_agrees_23 dX12_agrees_24 (fun c => ?_) (fun c => ?_)
          · replace h := ya_itef h c
            exact hk46  h
          · replace h := ya_itet h c
            refine ya_aload_n 0 rfl dX12_agrees_27 ?_
            refine ya_iload_n 1 rfl dX12_agrees_28 ?_
            refine ya_iload 5 rfl dX12_agrees_29 ?_
            refine ya_iconst 1 (by decide) dX12_agrees_31 ?_
            refine ya_iadd dX12_agrees_32 ?_
            obtain ⟨x33, e33, h⟩ := ya_ob h
            refine ya_callVl (S := []) (c_X12_numberAt hG e33) m_X12_numberAt ⟨rfl, rfl⟩ ml_X12_383 rfl ⟨Nat.le_of_ble_eq_true rfl, Nat.le_of_ble_eq_true rfl⟩ (Nat.le_of_ble_eq_true rfl) (hG.lt0 83 (by decide)) (hG.o0 83 rfl) (by decide) rfl rfl ⟨Nat.le_refl _, Nat.le_refl _⟩ dX12_agrees_33 rfl ?_
            refine ya_iload_n 3 rfl dX12_agrees_36 ?_
            refine ya_i2l dX12_agrees_37 ?_
            refine ya_lif_ne 46 (by decide) dX12_agrees_38 dX12_agrees_39 (fun c => ?_) (fun c => ?_)
            · replace h := ya_itef h c
              exact hk46  h
            · replace h := ya_itet h c
              refine ya_iconst 1 (by decide) dX12_agrees_42 ?_
              refine ya_goto 47 (by decide) dX12_agrees_43 ?_
              exact hk47 _ h
set_option maxRecDepth 20000 in
theorem c_X12_agrees {X : ya_X} {G : ya_G} {v1 : Int32} {v2 : Int32} {v3 : Int32} {v4 : Int32} {d : ya_D} {rr : Int32} (hG : ya_Bk ya_sh ya_ln G 0) (h : f_X12_agrees v1 v2 v3 v4 d = some rr) : ya_Ct X yX12_agrees Y_X12_agrees [.ref (X.2.1 + 83), .int v1, .int v2, .int v3, .int v4] G d (some (.int rr), G, d) := by
  refine ya_ct (by decide +kernel) rfl rfl (Nat.le_of_ble_eq_true rfl) ?_
  unfold f_X12_agrees at h
  show ya_E X Y_X12_agrees (ya_M X (some (.int rr), G, d) 0 0) 0 [(0, .ref (X.2.1 + 83)), (1, .int v1), (2, .int v2), (3, .int v3), (4, .int v4)] [] G d 0 0
  refine ya_iconst 0 (by decide) dX12_agrees_0 ?_
  refine ya_istore [(5, .int 0), (0, .ref (X.2.1 + 83)), (1, .int v1), (2, .int v2), (3, .int v3), (4, .int v4)] (by decide) rfl dX12_agrees_1 ?_
  refine ya_sub [(0, .ref (X.2.1 + 83)), (1, .int v1), (2, .int v2), (3, .int v3), (4, .int v4), (5, .int 0)] [1, 2, 3, 4, 5, 0] rfl ?_
  refine w_X12_agrees_L3 hG  ya_F _ h
set_option maxRecDepth 20000 in
theorem w_X12_agree_L27 {X : ya_X} {G : ya_G} {v1 : Int32} {v2 : Int32} {v3 : Int32} {d : ya_D} {rr : Int32} (hG : ya_Bk ya_sh ya_ln G 0) : ∀ (n : Nat) (v5 : Int32) (v6 : Int32), f_X12_agree_L27 v1 v2 v3 d n v5 v6 = some rr → ya_E X Y_X12_agree (ya_M X (some (.int rr), G, d) 0 0) 27 [(0, .ref (X.2.1 + 83)), (1, .int v1), (2, .int v2), (3, .int v3), (5, .int v5), (6, .int v6)] [] G d 0 0 := by
  intro n
  induction n with
  | zero => intro v5 v6 h; cases h
  | succ n ih =>
    intro v5 v6 h
    rw [f_X12_agree_L27] at h
    refine ya_iload 5 rfl dX12_agree_27 ?_
    refine ya_bipush 99 (by decide) dX12_agree_29 ?_
    refine ya_icmp_gt 62 (by decide) dX12_agree_31 (fun c => ?_) (fun c => ?_)
    · replace h := ya_itet h c
      refine ya_iload 4 rfl dX12_agree_62 ?_
      cases h
      exact ya_iret rfl rfl rfl rfl rfl (Nat.le_refl _) dX12_agree_64
    · replace h := ya_itef h c
      refine ya_iload 4 rfl dX12_agree_34 ?_
      refine ya_aload_n 0 rfl dX12_agree_36 ?_
      refine ya_iload_n 1 rfl dX12_agree_37 ?_
      refine ya_iload_n 2 rfl dX12_agree_38 ?_
      refine ya_iload_n 3 rfl dX12_agree_39 ?_
      refine ya_iload 5 rfl dX12_agree_40 ?_
      obtain ⟨x42, e42, h⟩ := ya_ob h
      refine ya_callVi (S := [.int v5]) (c_X12_agrees hG e42) m_X12_agrees ⟨rfl, rfl⟩ ml_X12_391 rfl ⟨Nat.le_of_ble_eq_true rfl, Nat.le_of_ble_eq_true rfl⟩ (Nat.le_of_ble_eq_true rfl) (hG.lt0 83 (by decide)) (hG.o0 83 rfl) (by decide) rfl rfl ⟨Nat.le_refl _, Nat.le_refl _⟩ dX12_agree_42 rfl ?_
      refine ya_j1_s h (fun t0_53 => ya_E X Y_X12_agree (ya_M X (some (.int rr), G, d) 0 0) 53 [(0, .ref (X.2.1 + 83)), (1, .int v1), (2, .int v2), (3, .int v3), (6, .int v6)] [.int t0_53, .int v5] G d 0 0) (fun t0_53 h => ?_) (fun k53 hk53 h => ?_)
      · refine ya_iadd dX12_agree_53 ?_
        refine ya_istore [(5, .int (v5 + t0_53)), (0, .ref (X.2.1 + 83)), (1, .int v1), (2, .int v2), (3, .int v3), (6, .int v6)] (by decide) rfl dX12_agree_54 ?_
        refine ya_iinc (v6 + 1) rfl 5 rfl [(6, .int (v6 + 1)), (5, .int (v5 + t0_53)), (0, .ref (X.2.1 + 83)), (1, .int v1), (2, .int v2), (3, .int v3)] (by decide) rfl dX12_agree_56 ?_
        refine ya_goto 27 (by decide) dX12_agree_59 ?_
        refine ya_sub [(0, .ref (X.2.1 + 83)), (1, .int v1), (2, .int v2), (3, .int v3), (5, .int (v5 + t0_53)), (6, .int (v6 + 1))] [2, 3, 4, 5, 1, 0] rfl ?_
        exact ih _ _ h
      · refine ya_ifeq 52 (by decide) dX12_agree_45 (fun c => ?_) (fun c => ?_)
        · replace h := ya_itet h c
          refine ya_iconst 0 (by decide) dX12_agree_52 ?_
          refine ya_sub [(0, .ref (X.2.1 + 83)), (1, .int v1), (2, .int v2), (3, .int v3), (6, .int v6)] [0, 1, 2, 3, 5] rfl ?_
          exact hk53 _ h
        · replace h := ya_itef h c
          refine ya_iconst 1 (by decide) dX12_agree_48 ?_
          refine ya_goto 53 (by decide) dX12_agree_49 ?_
          refine ya_sub [(0, .ref (X.2.1 + 83)), (1, .int v1), (2, .int v2), (3, .int v3), (6, .int v6)] [0, 1, 2, 3, 5] rfl ?_
          exact hk53 _ h
set_option maxRecDepth 20000 in
theorem c_X12_agree {X : ya_X} {G : ya_G} {v1 : Int32} {v2 : Int32} {v3 : Int32} {d : ya_D} {rr : Int32} (hG : ya_Bk ya_sh ya_ln G 0) (h : f_X12_agree v1 v2 v3 d = some rr) : ya_Ct X yX12_agree Y_X12_agree [.ref (X.2.1 + 83), .int v1, .int v2, .int v3] G d (some (.int rr), G, d) := by
  refine ya_ct (by decide +kernel) rfl rfl (Nat.le_of_ble_eq_true rfl) ?_
  unfold f_X12_agree at h
  show ya_E X Y_X12_agree (ya_M X (some (.int rr), G, d) 0 0) 0 [(0, .ref (X.2.1 + 83)), (1, .int v1), (2, .int v2), (3, .int v3)] [] G d 0 0
  refine ya_aload_n 0 rfl dX12_agree_0 ?_
  refine ya_iload_n 1 rfl dX12_agree_1 ?_
  refine ya_aload_n 0 rfl dX12_agree_2 ?_
  refine ya_iload_n 2 rfl dX12_agree_3 ?_
  refine ya_iload_n 3 rfl dX12_agree_4 ?_
  obtain ⟨x5, e5, h⟩ := ya_ob h
  refine ya_callVi (S := [.int v1, .ref (X.2.1 + 83)]) (c_X12_areSo hG e5) m_X12_areSo ⟨rfl, rfl⟩ ml_X12_307 rfl ⟨Nat.le_of_ble_eq_true rfl, Nat.le_of_ble_eq_true rfl⟩ (Nat.le_of_ble_eq_true rfl) (hG.lt0 83 (by decide)) (hG.o0 83 rfl) (by decide) rfl rfl ⟨Nat.le_refl _, Nat.le_refl _⟩ dX12_agree_5 rfl ?_
  obtain ⟨x8, e8, h⟩ := ya_ob h
  refine ya_callVi (S := []) (c_X12_asksCrowds hG e8) m_X12_asksCrowds ⟨rfl, rfl⟩ ml_X12_387 rfl ⟨Nat.le_of_ble_eq_true rfl, Nat.le_of_ble_eq_true rfl⟩ (Nat.le_of_ble_eq_true rfl) (hG.lt0 83 (by decide)) (hG.o0 83 rfl) (by decide) rfl rfl ⟨Nat.le_refl _, Nat.le_refl _⟩ dX12_agree_8 rfl ?_
  refine ya_istore [(4, .int x8), (0, .ref (X.2.1 + 83)), (1, .int v1), (2, .int v2), (3, .int v3)] (by decide) rfl dX12_agree_11 ?_
  refine ya_iload 0 rfl dX12_agree_13 ?_
  refine ya_ifge 21 (by decide) dX12_agree_15 (fun c => ?_) (fun c => ?_)
  · replace h := ya_itet h c
    refine ya_iconst 0 (by decide) dX12_agree_21 ?_
    refine ya_istore [(5, .int 0), (4, .int x8), (0, .ref (X.2.1 + 83)), (1, .int v1), (2, .int v2), (3, .int v3)] (by decide) rfl dX12_agree_22 ?_
    refine ya_iconst 0 (by decide) dX12_agree_24 ?_
    refine ya_istore [(6, .int 0), (5, .int 0), (4, .int x8), (0, .ref (X.2.1 + 83)), (1, .int v1), (2, .int v2), (3, .int v3)] (by decide) rfl dX12_agree_25 ?_
    refine ya_sub [(0, .ref (X.2.1 + 83)), (1, .int v1), (2, .int v2), (3, .int v3), (5, .int 0), (6, .int 0)] [3, 4, 5, 6, 1, 0] rfl ?_
    refine w_X12_agree_L27 hG  ya_F _ _ h
  · replace h := ya_itef h c
    refine ya_iload 0 rfl dX12_agree_18 ?_
    cases h
    exact ya_iret rfl rfl rfl rfl rfl (Nat.le_refl _) dX12_agree_20
set_option maxRecDepth 20000 in
theorem w_X12_told__L49 {X : ya_X} {G : ya_G} {v1 : Int32} {v2 : Int32} {v3 : Int32} {v4 : Int32} {d : ya_D} {rr : Int32} {e96 : Int32 → Int32 → Option Int32} (hG : ya_Bk ya_sh ya_ln G 0) (he96 : ∀ (v6 : Int32) (v7 : Int32), e96 v6 v7 = some rr → ya_E X Y_X12_told_ (ya_M X (some (.int rr), G, d) 0 0) 96 [(4, .int v4), (6, .int v6), (7, .int v7)] [] G d 0 0) : ∀ (n : Nat) (v6 : Int32) (v7 : Int32) (v8 : Int32), f_X12_told__L49 v1 v2 v3 v4 d e96 n v6 v7 v8 = some rr → ya_E X Y_X12_told_ (ya_M X (some (.int rr), G, d) 0 0) 49 [(0, .ref (X.2.1 + 83)), (1, .int v1), (2, .int v2), (3, .int v3), (4, .int v4), (6, .int v6), (7, .int v7), (8, .int v8)] [] G d 0 0 := by
  intro n
  induction n with
  | zero => intro v6 v7 v8 h; cases h
  | succ n ih =>
    intro v6 v7 v8 h
    rw [f_X12_told__L49] at h
    refine ya_iload 7 rfl dX12_told__49 ?_
    refine ya_bipush 99 (by decide) dX12_told__51 ?_
    refine ya_icmp_gt 96 (by decide) dX12_told__53 (fun c => ?_) (fun c => ?_)
    · replace h := ya_itet h c
      refine ya_sub [(4, .int v4), (6, .int v6), (7, .int v7)] [4, 5, 6] rfl ?_
      exact he96 _ _ h
    · replace h := ya_itef h c
      refine ya_aload_n 0 rfl dX12_told__56 ?_
      refine ya_iload_n 1 rfl dX12_told__57 ?_
      refine ya_iload_n 2 rfl dX12_told__58 ?_
      refine ya_iload_n 3 rfl dX12_told__59 ?_
      refine ya_iload 7 rfl dX12_told__60 ?_
      obtain ⟨x62, e62, h⟩ := ya_ob h
      refine ya_callVi (S := []) (c_X12_agrees hG e62) m_X12_agrees ⟨rfl, rfl⟩ ml_X12_391 rfl ⟨Nat.le_of_ble_eq_true rfl, Nat.le_of_ble_eq_true rfl⟩ (Nat.le_of_ble_eq_true rfl) (hG.lt0 83 (by decide)) (hG.o0 83 rfl) (by decide) rfl rfl ⟨Nat.le_refl _, Nat.le_refl _⟩ dX12_told__62 rfl ?_
      refine ya_j2_s h (fun v6_90 v7_90 => ya_E X Y_X12_told_ (ya_M X (some (.int rr), G, d) 0 0) 90 [(0, .ref (X.2.1 + 83)), (1, .int v1), (2, .int v2), (3, .int v3), (4, .int v4), (6, .int v6_90), (7, .int v7_90), (8, .int v8)] [] G d 0 0) (fun v6_90 v7_90 h => ?_) (fun k90 hk90 h => ?_)
      · refine ya_iinc (v8 + 1) rfl 7 rfl [(8, .int (v8 + 1)), (0, .ref (X.2.1 + 83)), (1, .int v1), (2, .int v2), (3, .int v3), (4, .int v4), (6, .int v6_90), (7, .int v7_90)] (by decide) rfl dX12_told__90 ?_
        refine ya_goto 49 (by decide) dX12_told__93 ?_
        refine ya_sub [(0, .ref (X.2.1 + 83)), (1, .int v1), (2, .int v2), (3, .int v3), (4, .int v4), (6, .int v6_90), (7, .int v7_90), (8, .int (v8 + 1))] [1, 2, 3, 4, 5, 6, 7, 0] rfl ?_
        exact ih _ _ _ h
      · refine ya_ifne 71 (by decide) dX12_told__65 (fun c => ?_) (fun c => ?_)
        · replace h := ya_itef h c
          refine ya_iload 5 rfl dX12_told__71 ?_
          refine ya_iconst (-1) (by decide) dX12_told__73 ?_
          refine ya_j1_s h (fun t0_84 => ya_E X Y_X12_told_ (ya_M X (some (.int rr), G, d) 0 0) 84 [(0, .ref (X.2.1 + 83)), (1, .int v1), (2, .int v2), (3, .int v3), (4, .int v4), (8, .int v8)] [.int t0_84] G d 0 0) (fun t0_84 h => ?_) (fun k84 hk84 h => ?_)
          · refine ya_istore [(6, .int t0_84), (0, .ref (X.2.1 + 83)), (1, .int v1), (2, .int v2), (3, .int v3), (4, .int v4), (8, .int v8)] (by decide) rfl dX12_told__84 ?_
            refine ya_iload 6 rfl dX12_told__86 ?_
            refine ya_istore [(7, .int v8), (6, .int t0_84), (0, .ref (X.2.1 + 83)), (1, .int v1), (2, .int v2), (3, .int v3), (4, .int v4), (8, .int v8)] (by decide) rfl dX12_told__88 ?_
            refine ya_sub [(0, .ref (X.2.1 + 83)), (1, .int v1), (2, .int v2), (3, .int v3), (4, .int v4), (6, .int t0_84), (7, .int v8), (8, .int v8)] [2, 3, 4, 5, 6, 1, 0, 7] rfl ?_
            exact hk90 _ _ h
          · refine ya_icmp_ne 82 (by decide) dX12_told__74 (fun c => ?_) (fun c => ?_)
            · replace h := ya_itef h c
              refine ya_iload 5 rfl dX12_told__82 ?_
              refine ya_sub [(0, .ref (X.2.1 + 83)), (1, .int v1), (2, .int v2), (3, .int v3), (4, .int v4), (8, .int v8)] [0, 1, 2, 3, 4, 7] rfl ?_
              exact hk84 _ h
            · replace h := ya_itet h c
              refine ya_iload 7 rfl dX12_told__77 ?_
              refine ya_goto 84 (by decide) dX12_told__79 ?_
              refine ya_sub [(0, .ref (X.2.1 + 83)), (1, .int v1), (2, .int v2), (3, .int v3), (4, .int v4), (8, .int v8)] [0, 1, 2, 3, 4, 7] rfl ?_
              exact hk84 _ h
        · replace h := ya_itet h c
          refine ya_goto 90 (by decide) dX12_told__68 ?_
          exact hk90 _ _ h
set_option maxRecDepth 20000 in
theorem c_X12_told_ {X : ya_X} {G : ya_G} {v1 : Int32} {v2 : Int32} {v3 : Int32} {v4 : Int32} {d : ya_D} {rr : Int32} (hG : ya_Bk ya_sh ya_ln G 0) (h : f_X12_told_ v1 v2 v3 v4 d = some rr) : ya_Ct X yX12_told_ Y_X12_told_ [.ref (X.2.1 + 83), .int v1, .int v2, .int v3, .int v4] G d (some (.int rr), G, d) := by
  refine ya_ct (by decide +kernel) rfl rfl (Nat.le_of_ble_eq_true rfl) ?_
  unfold f_X12_told_ at h
  show ya_E X Y_X12_told_ (ya_M X (some (.int rr), G, d) 0 0) 0 [(0, .ref (X.2.1 + 83)), (1, .int v1), (2, .int v2), (3, .int v3), (4, .int v4)] [] G d 0 0
  refine ya_aload_n 0 rfl dX12_told__0 ?_
  refine ya_iload_n 1 rfl dX12_told__1 ?_
  refine ya_aload_n 0 rfl dX12_told__2 ?_
  refine ya_iload_n 2 rfl dX12_told__3 ?_
  refine ya_iload_n 3 rfl dX12_told__4 ?_
  obtain ⟨x5, e5, h⟩ := ya_ob h
  refine ya_callVi (S := [.int v1, .ref (X.2.1 + 83)]) (c_X12_areSo hG e5) m_X12_areSo ⟨rfl, rfl⟩ ml_X12_307 rfl ⟨Nat.le_of_ble_eq_true rfl, Nat.le_of_ble_eq_true rfl⟩ (Nat.le_of_ble_eq_true rfl) (hG.lt0 83 (by decide)) (hG.o0 83 rfl) (by decide) rfl rfl ⟨Nat.le_refl _, Nat.le_refl _⟩ dX12_told__5 rfl ?_
  refine ya_j1_s h (fun t0_27 => ya_E X Y_X12_told_ (ya_M X (some (.int rr), G, d) 0 0) 27 [(0, .ref (X.2.1 + 83)), (1, .int v1), (2, .int v2), (3, .int v3), (4, .int v4)] [.int t0_27, .int v1, .ref (X.2.1 + 83)] G d 0 0) (fun t0_27 h => ?_) (fun k27 hk27 h => ?_)
  · obtain ⟨x27, e27, h⟩ := ya_ob h
    refine ya_callVi (S := []) (c_X12_asksCrowds hG e27) m_X12_asksCrowds ⟨rfl, rfl⟩ ml_X12_387 rfl ⟨Nat.le_of_ble_eq_true rfl, Nat.le_of_ble_eq_true rfl⟩ (Nat.le_of_ble_eq_true rfl) (hG.lt0 83 (by decide)) (hG.o0 83 rfl) (by decide) rfl rfl ⟨Nat.le_refl _, Nat.le_refl _⟩ dX12_told__27 rfl ?_
    refine ya_istore [(5, .int x27), (0, .ref (X.2.1 + 83)), (1, .int v1), (2, .int v2), (3, .int v3), (4, .int v4)] (by decide) rfl dX12_told__30 ?_
    refine ya_iload 0 rfl dX12_told__32 ?_
    refine ya_ifge 40 (by decide) dX12_told__34 (fun c => ?_) (fun c => ?_)
    · replace h := ya_itet h c
      refine ya_iconst (-1) (by decide) dX12_told__40 ?_
      refine ya_istore [(6, .int (-1)), (5, .int x27), (0, .ref (X.2.1 + 83)), (1, .int v1), (2, .int v2), (3, .int v3), (4, .int v4)] (by decide) rfl dX12_told__41 ?_
      refine ya_iconst (-1) (by decide) dX12_told__43 ?_
      refine ya_istore [(7, .int (-1)), (6, .int (-1)), (5, .int x27), (0, .ref (X.2.1 + 83)), (1, .int v1), (2, .int v2), (3, .int v3), (4, .int v4)] (by decide) rfl dX12_told__44 ?_
      refine ya_iconst 0 (by decide) dX12_told__46 ?_
      refine ya_istore [(8, .int 0), (7, .int (-1)), (6, .int (-1)), (5, .int x27), (0, .ref (X.2.1 + 83)), (1, .int v1), (2, .int v2), (3, .int v3), (4, .int v4)] (by decide) rfl dX12_told__47 ?_
      refine ya_sub [(0, .ref (X.2.1 + 83)), (1, .int v1), (2, .int v2), (3, .int v3), (4, .int v4), (6, .int (-1)), (7, .int (-1)), (8, .int 0)] [4, 5, 6, 7, 8, 2, 1, 0] rfl ?_
      refine w_X12_told__L49 hG (fun v6_96 v7_96 h => ?_) ya_F _ _ _ h
      refine ya_iload 0 rfl dX12_told__96 ?_
      refine ya_ifne 106 (by decide) dX12_told__98 (fun c => ?_) (fun c => ?_)
      · replace h := ya_itef h c
        refine ya_iload 2 rfl dX12_told__106 ?_
        cases h
        exact ya_iret rfl rfl rfl rfl rfl (Nat.le_refl _) dX12_told__108
      · replace h := ya_itet h c
        refine ya_iload 1 rfl dX12_told__101 ?_
        refine ya_goto 108 (by decide) dX12_told__103 ?_
        cases h
        exact ya_iret rfl rfl rfl rfl rfl (Nat.le_refl _) dX12_told__108
    · replace h := ya_itef h c
      refine ya_iload 0 rfl dX12_told__37 ?_
      cases h
      exact ya_iret rfl rfl rfl rfl rfl (Nat.le_refl _) dX12_told__39
  · refine ya_j0_s h (ya_E X Y_X12_told_ (ya_M X (some (.int rr), G, d) 0 0) 26 [(0, .ref (X.2.1 + 83)), (1, .int v1), (2, .int v2), (3, .int v3), (4, .int v4)] [.int v1, .ref (X.2.1 + 83)] G d 0 0) (fun h => ?_) (fun k26 hk26 h => ?_)
    · refine ya_iconst 0 (by decide) dX12_told__26 ?_
      exact hk27 _ h
    · refine ya_ifeq 26 (by decide) dX12_told__8 (fun c => ?_) (fun c => ?_)
      · replace h := ya_itet h c
        exact hk26  h
      · replace h := ya_itef h c
        refine ya_iload 4 rfl dX12_told__11 ?_
        refine ya_i2l dX12_told__13 ?_
        refine ya_lconst 0 rfl dX12_told__14 ?_
        refine ya_lconst 1 rfl dX12_told__15 ?_
        obtain ⟨x16, e16, h⟩ := ya_ob h
        refine ya_callSi (S := [.int v1, .ref (X.2.1 + 83)]) (c_X12_in hG e16) m_X12_in ⟨rfl, rfl⟩ ml_X12_94 rfl ⟨Nat.le_of_ble_eq_true rfl, Nat.le_of_ble_eq_true rfl⟩ (Nat.le_of_ble_eq_true rfl) ⟨Nat.le_refl _, Nat.le_refl _⟩ dX12_told__16 rfl ?_
        refine ya_ifeq 26 (by decide) dX12_told__19 (fun c => ?_) (fun c => ?_)
        · replace h := ya_itet h c
          exact hk26  h
        · replace h := ya_itef h c
          refine ya_iconst 1 (by decide) dX12_told__22 ?_
          refine ya_goto 27 (by decide) dX12_told__23 ?_
          exact hk27 _ h
set_option maxRecDepth 20000 in
theorem w_X12_odd_L18 {X : ya_X} {G : ya_G} {v1 : Int32} {d : ya_D} {rr : Int32} (hG : ya_Bk ya_sh ya_ln G 0) : ∀ (n : Nat) (v3 : Int32), f_X12_odd_L18 v1 d n v3 = some rr → ya_E X Y_X12_odd (ya_M X (some (.int rr), G, d) 0 0) 18 [(0, .ref (X.2.1 + 83)), (1, .int v1), (3, .int v3)] [] G d 0 0 := by
  intro n
  induction n with
  | zero => intro v3 h; cases h
  | succ n ih =>
    intro v3 h
    rw [f_X12_odd_L18] at h
    refine ya_iconst 3 (by decide) dX12_odd_18 ?_
    refine ya_iload_n 2 rfl dX12_odd_19 ?_
    refine ya_imul dX12_odd_20 ?_
    refine ya_aload_n 0 rfl dX12_odd_21 ?_
    refine ya_getR fo_X12_76 (hG.o0 83 rfl) (hG.lt0 83 (by decide)) (hG.l0 102 rfl) dX12_odd_22 ?_
    refine ya_iload_n 1 rfl dX12_odd_25 ?_
    refine ya_iald (hG.s0 104 rfl) (hG.lt0 104 (by decide)) dX12_odd_26 h (fun x26 h => ?_)
    refine ya_icmp_ge 93 (by decide) dX12_odd_27 (fun c => ?_) (fun c => ?_)
    · replace h := ya_itet h c
      refine ya_iconst (-1) (by decide) dX12_odd_93 ?_
      cases h
      exact ya_iret rfl rfl rfl rfl rfl (Nat.le_refl _) dX12_odd_94
    · replace h := ya_itef h c
      refine ya_aload_n 0 rfl dX12_odd_30 ?_
      refine ya_iload_n 1 rfl dX12_odd_31 ?_
      refine ya_iconst 3 (by decide) dX12_odd_32 ?_
      refine ya_iload_n 2 rfl dX12_odd_33 ?_
      refine ya_imul dX12_odd_34 ?_
      obtain ⟨x35, e35, h⟩ := ya_ob h
      refine ya_callVl (S := []) (c_X12_numberAt hG e35) m_X12_numberAt ⟨rfl, rfl⟩ ml_X12_383 rfl ⟨Nat.le_of_ble_eq_true rfl, Nat.le_of_ble_eq_true rfl⟩ (Nat.le_of_ble_eq_true rfl) (hG.lt0 83 (by decide)) (hG.o0 83 rfl) (by decide) rfl rfl ⟨Nat.le_refl _, Nat.le_refl _⟩ dX12_odd_35 rfl ?_
      refine ya_l2i dX12_odd_38 ?_
      refine ya_istore [(4, .int ((x35).toInt32)), (0, .ref (X.2.1 + 83)), (1, .int v1), (3, .int v3)] (by decide) rfl dX12_odd_39 ?_
      refine ya_aload_n 1 rfl dX12_odd_41 ?_
      refine ya_iload_n 2 rfl dX12_odd_42 ?_
      refine ya_iconst 3 (by decide) dX12_odd_43 ?_
      refine ya_iload_n 3 rfl dX12_odd_44 ?_
      refine ya_imul dX12_odd_45 ?_
      refine ya_iconst 1 (by decide) dX12_odd_46 ?_
      refine ya_iadd dX12_odd_47 ?_
      obtain ⟨x48, e48, h⟩ := ya_ob h
      refine ya_callVl (S := []) (c_X12_numberAt hG e48) m_X12_numberAt ⟨rfl, rfl⟩ ml_X12_383 rfl ⟨Nat.le_of_ble_eq_true rfl, Nat.le_of_ble_eq_true rfl⟩ (Nat.le_of_ble_eq_true rfl) (hG.lt0 83 (by decide)) (hG.o0 83 rfl) (by decide) rfl rfl ⟨Nat.le_refl _, Nat.le_refl _⟩ dX12_odd_48 rfl ?_
      refine ya_l2i dX12_odd_51 ?_
      refine ya_istore [(5, .int ((x48).toInt32)), (4, .int ((x35).toInt32)), (0, .ref (X.2.1 + 83)), (1, .int v1), (3, .int v3)] (by decide) rfl dX12_odd_52 ?_
      refine ya_aload_n 2 rfl dX12_odd_54 ?_
      refine ya_iload 1 rfl dX12_odd_55 ?_
      refine ya_iload 0 rfl dX12_odd_57 ?_
      refine ya_aload_n 2 rfl dX12_odd_59 ?_
      refine ya_iload 1 rfl dX12_odd_60 ?_
      refine ya_iload 0 rfl dX12_odd_62 ?_
      obtain ⟨x64, e64, h⟩ := ya_ob h
      refine ya_callVi (S := [.int ((x48).toInt32), .int ((x35).toInt32), .ref (X.2.1 + 83)]) (c_X12_priceOf hG e64) m_X12_priceOf ⟨rfl, rfl⟩ ml_X12_263 rfl ⟨Nat.le_of_ble_eq_true rfl, Nat.le_of_ble_eq_true rfl⟩ (Nat.le_of_ble_eq_true rfl) (hG.lt0 83 (by decide)) (hG.o0 83 rfl) (by decide) rfl rfl ⟨Nat.le_refl _, Nat.le_refl _⟩ dX12_odd_64 rfl ?_
      obtain ⟨x67, e67, h⟩ := ya_ob h
      refine ya_callVi (S := []) (c_X12_comeAt hG e67) m_X12_comeAt ⟨rfl, rfl⟩ ml_X12_377 rfl ⟨Nat.le_of_ble_eq_true rfl, Nat.le_of_ble_eq_true rfl⟩ (Nat.le_of_ble_eq_true rfl) (hG.lt0 83 (by decide)) (hG.o0 83 rfl) (by decide) rfl rfl ⟨Nat.le_refl _, Nat.le_refl _⟩ dX12_odd_67 rfl ?_
      refine ya_i2l dX12_odd_70 ?_
      refine ya_aload_n 2 rfl dX12_odd_71 ?_
      refine ya_iload_n 3 rfl dX12_odd_72 ?_
      refine ya_iconst 3 (by decide) dX12_odd_73 ?_
      refine ya_iload_n 4 rfl dX12_odd_74 ?_
      refine ya_imul dX12_odd_75 ?_
      refine ya_iconst 2 (by decide) dX12_odd_76 ?_
      refine ya_iadd dX12_odd_77 ?_
      obtain ⟨x78, e78, h⟩ := ya_ob h
      refine ya_callVl (S := [.long ((x67).toInt64)]) (c_X12_numberAt hG e78) m_X12_numberAt ⟨rfl, rfl⟩ ml_X12_383 rfl ⟨Nat.le_of_ble_eq_true rfl, Nat.le_of_ble_eq_true rfl⟩ (Nat.le_of_ble_eq_true rfl) (hG.lt0 83 (by decide)) (hG.o0 83 rfl) (by decide) rfl rfl ⟨Nat.le_refl _, Nat.le_refl _⟩ dX12_odd_78 rfl ?_
      refine ya_lif_eq 87 (by decide) dX12_odd_81 dX12_odd_82 (fun c => ?_) (fun c => ?_)
      · replace h := ya_itet h c
        refine ya_iinc (v3 + 1) rfl 4 rfl [(3, .int (v3 + 1)), (5, .int ((x48).toInt32)), (4, .int ((x35).toInt32)), (0, .ref (X.2.1 + 83)), (1, .int v1)] (by decide) rfl dX12_odd_87 ?_
        refine ya_goto 18 (by decide) dX12_odd_90 ?_
        refine ya_sub [(0, .ref (X.2.1 + 83)), (1, .int v1), (3, .int (v3 + 1))] [3, 4, 0] rfl ?_
        exact ih _ h
      · replace h := ya_itef h c
        refine ya_iload_n 4 rfl dX12_odd_85 ?_
        cases h
        exact ya_iret rfl rfl rfl rfl rfl (Nat.le_refl _) dX12_odd_86
set_option maxRecDepth 20000 in
theorem c_X12_odd {X : ya_X} {G : ya_G} {v1 : Int32} {d : ya_D} {rr : Int32} (hG : ya_Bk ya_sh ya_ln G 0) (h : f_X12_odd v1 d = some rr) : ya_Ct X yX12_odd Y_X12_odd [.ref (X.2.1 + 83), .int v1] G d (some (.int rr), G, d) := by
  refine ya_ct (by decide +kernel) rfl rfl (Nat.le_of_ble_eq_true rfl) ?_
  unfold f_X12_odd at h
  show ya_E X Y_X12_odd (ya_M X (some (.int rr), G, d) 0 0) 0 [(0, .ref (X.2.1 + 83)), (1, .int v1)] [] G d 0 0
  refine ya_aload_n 0 rfl dX12_odd_0 ?_
  refine ya_iload_n 1 rfl dX12_odd_1 ?_
  refine ya_aload_n 0 rfl dX12_odd_2 ?_
  obtain ⟨x3, e3, h⟩ := ya_ob h
  refine ya_callVi (S := [.int v1, .ref (X.2.1 + 83)]) (c_X12_isMarket hG e3) m_X12_isMarket ⟨rfl, rfl⟩ ml_X12_330 rfl ⟨Nat.le_of_ble_eq_true rfl, Nat.le_of_ble_eq_true rfl⟩ (Nat.le_of_ble_eq_true rfl) (hG.lt0 83 (by decide)) (hG.o0 83 rfl) (by decide) rfl rfl ⟨Nat.le_refl _, Nat.le_refl _⟩ dX12_odd_3 rfl ?_
  obtain ⟨x6, e6, h⟩ := ya_ob h
  refine ya_callVi (S := []) (c_X12_asksCrowds hG e6) m_X12_asksCrowds ⟨rfl, rfl⟩ ml_X12_387 rfl ⟨Nat.le_of_ble_eq_true rfl, Nat.le_of_ble_eq_true rfl⟩ (Nat.le_of_ble_eq_true rfl) (hG.lt0 83 (by decide)) (hG.o0 83 rfl) (by decide) rfl rfl ⟨Nat.le_refl _, Nat.le_refl _⟩ dX12_odd_6 rfl ?_
  refine ya_istore_n [(2, .int x6), (0, .ref (X.2.1 + 83)), (1, .int v1)] (by decide) rfl dX12_odd_9 ?_
  refine ya_iload_n 0 rfl dX12_odd_10 ?_
  refine ya_ifge 16 (by decide) dX12_odd_11 (fun c => ?_) (fun c => ?_)
  · replace h := ya_itet h c
    refine ya_iconst 0 (by decide) dX12_odd_16 ?_
    refine ya_istore_n [(3, .int 0), (2, .int x6), (0, .ref (X.2.1 + 83)), (1, .int v1)] (by decide) rfl dX12_odd_17 ?_
    refine ya_sub [(0, .ref (X.2.1 + 83)), (1, .int v1), (3, .int 0)] [2, 3, 0] rfl ?_
    refine w_X12_odd_L18 hG  ya_F _ h
  · replace h := ya_itef h c
    refine ya_iload_n 0 rfl dX12_odd_14 ?_
    cases h
    exact ya_iret rfl rfl rfl rfl rfl (Nat.le_refl _) dX12_odd_15
set_option maxRecDepth 20000 in
theorem w_X12_passing_L62 {X : ya_X} {G : ya_G} {v1 : Int32} {v2 : Int32} {v7 : Int32} {v8 : Int32} {d : ya_D} {rr : Int32} {e171 : Int32 → Int32 → Int32 → Int32 → Option Int32} (hG : ya_Bk ya_sh ya_ln G 0) (he171 : ∀ (v3 : Int32) (v4 : Int32) (v5 : Int32) (v6 : Int32), e171 v3 v4 v5 v6 = some rr → ya_E X Y_X12_passing (ya_M X (some (.int rr), G, d) 0 0) 171 [(0, .ref (X.2.1 + 83)), (1, .int v1), (2, .int v2), (3, .int v3), (4, .int v4), (5, .int v5), (6, .int v6), (7, .int v7), (8, .int v8)] [] G d 0 0) : ∀ (n : Nat) (v3 : Int32) (v4 : Int32) (v5 : Int32) (v6 : Int32) (v9 : Int32), f_X12_passing_L62 v1 v2 v7 v8 d e171 n v3 v4 v5 v6 v9 = some rr → ya_E X Y_X12_passing (ya_M X (some (.int rr), G, d) 0 0) 62 [(0, .ref (X.2.1 + 83)), (1, .int v1), (2, .int v2), (3, .int v3), (4, .int v4), (5, .int v5), (6, .int v6), (7, .int v7), (8, .int v8), (9, .int v9)] [] G d 0 0 := by
  intro n
  induction n with
  | zero => intro v3 v4 v5 v6 v9 h; cases h
  | succ n ih =>
    intro v3 v4 v5 v6 v9 h
    rw [f_X12_passing_L62] at h
    refine ya_iload 9 rfl dX12_passing_62 ?_
    refine ya_aload_n 0 rfl dX12_passing_64 ?_
    refine ya_getR fo_X12_9 (hG.o0 83 rfl) (hG.lt0 83 (by decide)) (hG.l0 82 rfl) dX12_passing_65 ?_
    refine ya_iconst 0 (by decide) dX12_passing_68 ?_
    refine ya_iald (hG.s0 84 rfl) (hG.lt0 84 (by decide)) dX12_passing_69 h (fun x69 h => ?_)
    refine ya_icmp_ge 171 (by decide) dX12_passing_70 (fun c => ?_) (fun c => ?_)
    · replace h := ya_itet h c
      refine ya_sub [(0, .ref (X.2.1 + 83)), (1, .int v1), (2, .int v2), (3, .int v3), (4, .int v4), (5, .int v5), (6, .int v6), (7, .int v7), (8, .int v8)] [0, 1, 2, 3, 4, 5, 6, 7, 8] rfl ?_
      exact he171 _ _ _ _ h
    · replace h := ya_itef h c
      refine ya_iload 9 rfl dX12_passing_73 ?_
      refine ya_iload 8 rfl dX12_passing_75 ?_
      refine ya_aload_n 0 rfl dX12_passing_77 ?_
      refine ya_iload_n 1 rfl dX12_passing_78 ?_
      obtain ⟨x79, e79, h⟩ := ya_ob h
      refine ya_callVi (S := [.int v8, .int v9]) (c_X12_keepsOf hG e79) m_X12_keepsOf ⟨rfl, rfl⟩ ml_X12_273 rfl ⟨Nat.le_of_ble_eq_true rfl, Nat.le_of_ble_eq_true rfl⟩ (Nat.le_of_ble_eq_true rfl) (hG.lt0 83 (by decide)) (hG.o0 83 rfl) (by decide) rfl rfl ⟨Nat.le_refl _, Nat.le_refl _⟩ dX12_passing_79 rfl ?_
      refine ya_iadd dX12_passing_82 ?_
      refine ya_icmp_gt 171 (by decide) dX12_passing_83 (fun c => ?_) (fun c => ?_)
      · replace h := ya_itet h c
        refine ya_sub [(0, .ref (X.2.1 + 83)), (1, .int v1), (2, .int v2), (3, .int v3), (4, .int v4), (5, .int v5), (6, .int v6), (7, .int v7), (8, .int v8)] [0, 1, 2, 3, 4, 5, 6, 7, 8] rfl ?_
        exact he171 _ _ _ _ h
      · replace h := ya_itef h c
        refine ya_aload_n 0 rfl dX12_passing_86 ?_
        refine ya_getR fo_X12_9 (hG.o0 83 rfl) (hG.lt0 83 (by decide)) (hG.l0 82 rfl) dX12_passing_87 ?_
        refine ya_iload 7 rfl dX12_passing_90 ?_
        refine ya_j1_s h (fun t0_102 => ya_E X Y_X12_passing (ya_M X (some (.int rr), G, d) 0 0) 102 [(0, .ref (X.2.1 + 83)), (1, .int v1), (2, .int v2), (3, .int v3), (4, .int v4), (5, .int v5), (6, .int v6), (7, .int v7), (8, .int v8), (9, .int v9)] [.int t0_102, .ref (X.2.1 + 84)] G d 0 0) (fun t0_102 h => ?_) (fun k102 hk102 h => ?_)
        · refine ya_iload_n 1 rfl dX12_passing_102 ?_
          refine ya_iload 8 rfl dX12_passing_103 ?_
          obtain ⟨x105, e105, h⟩ := ya_ob h
          refine ya_callSi (S := [.int t0_102, .ref (X.2.1 + 84)]) (c_X12_at hG e105) m_X12_at ⟨rfl, rfl⟩ ml_X12_105 rfl ⟨Nat.le_of_ble_eq_true rfl, Nat.le_of_ble_eq_true rfl⟩ (Nat.le_of_ble_eq_true rfl) ⟨Nat.le_refl _, Nat.le_refl _⟩ dX12_passing_105 rfl ?_
          refine ya_iadd dX12_passing_108 ?_
          refine ya_iald (hG.s0 84 rfl) (hG.lt0 84 (by decide)) dX12_passing_109 h (fun x109 h => ?_)
          refine ya_istore [(10, .int x109), (0, .ref (X.2.1 + 83)), (1, .int v1), (2, .int v2), (3, .int v3), (4, .int v4), (5, .int v5), (6, .int v6), (7, .int v7), (8, .int v8), (9, .int v9)] (by decide) rfl dX12_passing_110 ?_
          refine ya_aload_n 1 rfl dX12_passing_112 ?_
          refine ya_getR fo_X12_9 (hG.o0 83 rfl) (hG.lt0 83 (by decide)) (hG.l0 82 rfl) dX12_passing_113 ?_
          refine ya_iload 8 rfl dX12_passing_116 ?_
          refine ya_j1_s h (fun t0_128 => ya_E X Y_X12_passing (ya_M X (some (.int rr), G, d) 0 0) 128 [(0, .ref (X.2.1 + 83)), (1, .int v1), (2, .int v2), (3, .int v3), (4, .int v4), (5, .int v5), (6, .int v6), (7, .int v7), (8, .int v8), (9, .int v9), (10, .int x109)] [.int t0_128, .ref (X.2.1 + 84)] G d 0 0) (fun t0_128 h => ?_) (fun k128 hk128 h => ?_)
          · refine ya_iload_n 1 rfl dX12_passing_128 ?_
            refine ya_iload 9 rfl dX12_passing_129 ?_
            obtain ⟨x131, e131, h⟩ := ya_ob h
            refine ya_callSi (S := [.int t0_128, .ref (X.2.1 + 84)]) (c_X12_at hG e131) m_X12_at ⟨rfl, rfl⟩ ml_X12_105 rfl ⟨Nat.le_of_ble_eq_true rfl, Nat.le_of_ble_eq_true rfl⟩ (Nat.le_of_ble_eq_true rfl) ⟨Nat.le_refl _, Nat.le_refl _⟩ dX12_passing_131 rfl ?_
            refine ya_iadd dX12_passing_134 ?_
            refine ya_iald (hG.s0 84 rfl) (hG.lt0 84 (by decide)) dX12_passing_135 h (fun x135 h => ?_)
            refine ya_iload 10 rfl dX12_passing_136 ?_
            refine ya_isub dX12_passing_138 ?_
            refine ya_istore [(11, .int (x135 - x109)), (0, .ref (X.2.1 + 83)), (1, .int v1), (2, .int v2), (3, .int v3), (4, .int v4), (5, .int v5), (6, .int v6), (7, .int v7), (8, .int v8), (9, .int v9), (10, .int x109)] (by decide) rfl dX12_passing_139 ?_
            refine ya_iload 0 rfl dX12_passing_141 ?_
            refine ya_iload_n 4 rfl dX12_passing_143 ?_
            refine ya_j4_s h (fun v3_165 v4_165 v5_165 v6_165 => ya_E X Y_X12_passing (ya_M X (some (.int rr), G, d) 0 0) 165 [(0, .ref (X.2.1 + 83)), (1, .int v1), (2, .int v2), (3, .int v3_165), (4, .int v4_165), (5, .int v5_165), (6, .int v6_165), (7, .int v7), (8, .int v8), (9, .int v9)] [] G d 0 0) (fun v3_165 v4_165 v5_165 v6_165 h => ?_) (fun k165 hk165 h => ?_)
            · refine ya_iinc (v9 + 1) rfl 9 rfl [(9, .int (v9 + 1)), (0, .ref (X.2.1 + 83)), (1, .int v1), (2, .int v2), (3, .int v3_165), (4, .int v4_165), (5, .int v5_165), (6, .int v6_165), (7, .int v7), (8, .int v8)] (by decide) rfl dX12_passing_165 ?_
              refine ya_goto 62 (by decide) dX12_passing_168 ?_
              refine ya_sub [(0, .ref (X.2.1 + 83)), (1, .int v1), (2, .int v2), (3, .int v3_165), (4, .int v4_165), (5, .int v5_165), (6, .int v6_165), (7, .int v7), (8, .int v8), (9, .int (v9 + 1))] [1, 2, 3, 4, 5, 6, 7, 8, 9, 0] rfl ?_
              exact ih _ _ _ _ _ h
            · refine ya_icmp_gt 150 (by decide) dX12_passing_144 (fun c => ?_) (fun c => ?_)
              · replace h := ya_itet h c
                refine ya_iload 0 rfl dX12_passing_150 ?_
                refine ya_istore_n [(3, .int (x135 - x109)), (11, .int (x135 - x109)), (0, .ref (X.2.1 + 83)), (1, .int v1), (2, .int v2), (4, .int v4), (5, .int v5), (6, .int v6), (7, .int v7), (8, .int v8), (9, .int v9), (10, .int x109)] (by decide) rfl dX12_passing_152 ?_
                refine ya_iload 9 rfl dX12_passing_153 ?_
                refine ya_istore [(4, .int v8), (3, .int (x135 - x109)), (11, .int (x135 - x109)), (0, .ref (X.2.1 + 83)), (1, .int v1), (2, .int v2), (5, .int v5), (6, .int v6), (7, .int v7), (8, .int v8), (9, .int v9), (10, .int x109)] (by decide) rfl dX12_passing_155 ?_
                refine ya_iload 10 rfl dX12_passing_157 ?_
                refine ya_istore [(5, .int v9), (4, .int v8), (3, .int (x135 - x109)), (11, .int (x135 - x109)), (0, .ref (X.2.1 + 83)), (1, .int v1), (2, .int v2), (6, .int v6), (7, .int v7), (8, .int v8), (9, .int v9), (10, .int x109)] (by decide) rfl dX12_passing_159 ?_
                refine ya_iload 8 rfl dX12_passing_161 ?_
                refine ya_istore [(6, .int v7), (5, .int v9), (4, .int v8), (3, .int (x135 - x109)), (11, .int (x135 - x109)), (0, .ref (X.2.1 + 83)), (1, .int v1), (2, .int v2), (7, .int v7), (8, .int v8), (9, .int v9), (10, .int x109)] (by decide) rfl dX12_passing_163 ?_
                refine ya_sub [(0, .ref (X.2.1 + 83)), (1, .int v1), (2, .int v2), (3, .int (x135 - x109)), (4, .int v8), (5, .int v9), (6, .int v7), (7, .int v7), (8, .int v8), (9, .int v9)] [5, 6, 7, 3, 2, 1, 0, 8, 9, 10] rfl ?_
                exact hk165 _ _ _ _ h
              · replace h := ya_itef h c
                refine ya_goto 165 (by decide) dX12_passing_147 ?_
                refine ya_sub [(0, .ref (X.2.1 + 83)), (1, .int v1), (2, .int v2), (3, .int v3), (4, .int v4), (5, .int v5), (6, .int v6), (7, .int v7), (8, .int v8), (9, .int v9)] [1, 2, 3, 4, 5, 6, 7, 8, 9, 10] rfl ?_
                exact hk165 _ _ _ _ h
          · refine ya_ifne 126 (by decide) dX12_passing_118 (fun c => ?_) (fun c => ?_)
            · replace h := ya_itef h c
              refine ya_bipush 11 (by decide) dX12_passing_126 ?_
              refine ya_sub [(0, .ref (X.2.1 + 83)), (1, .int v1), (2, .int v2), (3, .int v3), (4, .int v4), (5, .int v5), (6, .int v6), (7, .int v7), (8, .int v8), (9, .int v9), (10, .int x109)] [1, 2, 3, 4, 5, 6, 7, 8, 9, 10, 0] rfl ?_
              exact hk128 _ h
            · replace h := ya_itet h c
              refine ya_bipush 111 (by decide) dX12_passing_121 ?_
              refine ya_goto 128 (by decide) dX12_passing_123 ?_
              refine ya_sub [(0, .ref (X.2.1 + 83)), (1, .int v1), (2, .int v2), (3, .int v3), (4, .int v4), (5, .int v5), (6, .int v6), (7, .int v7), (8, .int v8), (9, .int v9), (10, .int x109)] [1, 2, 3, 4, 5, 6, 7, 8, 9, 10, 0] rfl ?_
              exact hk128 _ h
        · refine ya_ifne 100 (by decide) dX12_passing_92 (fun c => ?_) (fun c => ?_)
          · replace h := ya_itef h c
            refine ya_bipush 111 (by decide) dX12_passing_100 ?_
            exact hk102 _ h
          · replace h := ya_itet h c
            refine ya_bipush 11 (by decide) dX12_passing_95 ?_
            refine ya_goto 102 (by decide) dX12_passing_97 ?_
            exact hk102 _ h
set_option maxRecDepth 20000 in
theorem w_X12_passing_L47 {X : ya_X} {G : ya_G} {v1 : Int32} {v2 : Int32} {v7 : Int32} {d : ya_D} {rr : Int32} {e177 : Int32 → Int32 → Int32 → Int32 → Option Int32} (hG : ya_Bk ya_sh ya_ln G 0) (he177 : ∀ (v3 : Int32) (v4 : Int32) (v5 : Int32) (v6 : Int32), e177 v3 v4 v5 v6 = some rr → ya_E X Y_X12_passing (ya_M X (some (.int rr), G, d) 0 0) 177 [(0, .ref (X.2.1 + 83)), (1, .int v1), (2, .int v2), (3, .int v3), (4, .int v4), (5, .int v5), (6, .int v6), (7, .int v7)] [] G d 0 0) : ∀ (n : Nat) (v3 : Int32) (v4 : Int32) (v5 : Int32) (v6 : Int32) (v8 : Int32), f_X12_passing_L47 v1 v2 v7 d e177 n v3 v4 v5 v6 v8 = some rr → ya_E X Y_X12_passing (ya_M X (some (.int rr), G, d) 0 0) 47 [(0, .ref (X.2.1 + 83)), (1, .int v1), (2, .int v2), (3, .int v3), (4, .int v4), (5, .int v5), (6, .int v6), (7, .int v7), (8, .int v8)] [] G d 0 0 := by
  intro n
  induction n with
  | zero => intro v3 v4 v5 v6 v8 h; cases h
  | succ n ih =>
    intro v3 v4 v5 v6 v8 h
    rw [f_X12_passing_L47] at h
    refine ya_iload 8 rfl dX12_passing_47 ?_
    refine ya_aload_n 0 rfl dX12_passing_49 ?_
    refine ya_getR fo_X12_9 (hG.o0 83 rfl) (hG.lt0 83 (by decide)) (hG.l0 82 rfl) dX12_passing_50 ?_
    refine ya_iconst 0 (by decide) dX12_passing_53 ?_
    refine ya_iald (hG.s0 84 rfl) (hG.lt0 84 (by decide)) dX12_passing_54 h (fun x54 h => ?_)
    refine ya_icmp_ge 177 (by decide) dX12_passing_55 (fun c => ?_) (fun c => ?_)
    · replace h := ya_itet h c
      refine ya_sub [(0, .ref (X.2.1 + 83)), (1, .int v1), (2, .int v2), (3, .int v3), (4, .int v4), (5, .int v5), (6, .int v6), (7, .int v7)] [0, 1, 2, 3, 4, 5, 6, 7] rfl ?_
      exact he177 _ _ _ _ h
    · replace h := ya_itef h c
      refine ya_iload 8 rfl dX12_passing_58 ?_
      refine ya_istore [(9, .int v8), (0, .ref (X.2.1 + 83)), (1, .int v1), (2, .int v2), (3, .int v3), (4, .int v4), (5, .int v5), (6, .int v6), (7, .int v7), (8, .int v8)] (by decide) rfl dX12_passing_60 ?_
      refine ya_sub [(0, .ref (X.2.1 + 83)), (1, .int v1), (2, .int v2), (3, .int v3), (4, .int v4), (5, .int v5), (6, .int v6), (7, .int v7), (8, .int v8), (9, .int v8)] [1, 2, 3, 4, 5, 6, 7, 8, 9, 0] rfl ?_
      refine w_X12_passing_L62 hG (fun v3_171 v4_171 v5_171 v6_171 h => ?_) ya_F _ _ _ _ _ h
      refine ya_iinc (v8 + 1) rfl 8 rfl [(8, .int (v8 + 1)), (0, .ref (X.2.1 + 83)), (1, .int v1), (2, .int v2), (3, .int v3_171), (4, .int v4_171), (5, .int v5_171), (6, .int v6_171), (7, .int v7)] (by decide) rfl dX12_passing_171 ?_
      refine ya_goto 47 (by decide) dX12_passing_174 ?_
      refine ya_sub [(0, .ref (X.2.1 + 83)), (1, .int v1), (2, .int v2), (3, .int v3_171), (4, .int v4_171), (5, .int v5_171), (6, .int v6_171), (7, .int v7), (8, .int (v8 + 1))] [1, 2, 3, 4, 5, 6, 7, 8, 0] rfl ?_
      exact ih _ _ _ _ _ h
set_option maxRecDepth 20000 in
theorem w_X12_passing_L38 {X : ya_X} {G : ya_G} {v1 : Int32} {v2 : Int32} {d : ya_D} {rr : Int32} {e183 : Int32 → Int32 → Int32 → Int32 → Option Int32} (hG : ya_Bk ya_sh ya_ln G 0) (he183 : ∀ (v3 : Int32) (v4 : Int32) (v5 : Int32) (v6 : Int32), e183 v3 v4 v5 v6 = some rr → ya_E X Y_X12_passing (ya_M X (some (.int rr), G, d) 0 0) 183 [(2, .int v2), (3, .int v3), (4, .int v4), (5, .int v5), (6, .int v6)] [] G d 0 0) : ∀ (n : Nat) (v3 : Int32) (v4 : Int32) (v5 : Int32) (v6 : Int32) (v7 : Int32), f_X12_passing_L38 v1 v2 d e183 n v3 v4 v5 v6 v7 = some rr → ya_E X Y_X12_passing (ya_M X (some (.int rr), G, d) 0 0) 38 [(0, .ref (X.2.1 + 83)), (1, .int v1), (2, .int v2), (3, .int v3), (4, .int v4), (5, .int v5), (6, .int v6), (7, .int v7)] [] G d 0 0 := by
  intro n
  induction n with
  | zero => intro v3 v4 v5 v6 v7 h; cases h
  | succ n ih =>
    intro v3 v4 v5 v6 v7 h
    rw [f_X12_passing_L38] at h
    refine ya_iload 7 rfl dX12_passing_38 ?_
    refine ya_iconst 2 (by decide) dX12_passing_40 ?_
    refine ya_icmp_ge 183 (by decide) dX12_passing_41 (fun c => ?_) (fun c => ?_)
    · replace h := ya_itet h c
      refine ya_sub [(2, .int v2), (3, .int v3), (4, .int v4), (5, .int v5), (6, .int v6)] [2, 3, 4, 5, 6] rfl ?_
      exact he183 _ _ _ _ h
    · replace h := ya_itef h c
      refine ya_iconst 0 (by decide) dX12_passing_44 ?_
      refine ya_istore [(8, .int 0), (0, .ref (X.2.1 + 83)), (1, .int v1), (2, .int v2), (3, .int v3), (4, .int v4), (5, .int v5), (6, .int v6), (7, .int v7)] (by decide) rfl dX12_passing_45 ?_
      refine ya_sub [(0, .ref (X.2.1 + 83)), (1, .int v1), (2, .int v2), (3, .int v3), (4, .int v4), (5, .int v5), (6, .int v6), (7, .int v7), (8, .int 0)] [1, 2, 3, 4, 5, 6, 7, 8, 0] rfl ?_
      refine w_X12_passing_L47 hG (fun v3_177 v4_177 v5_177 v6_177 h => ?_) ya_F _ _ _ _ _ h
      refine ya_iinc (v7 + 1) rfl 7 rfl [(7, .int (v7 + 1)), (0, .ref (X.2.1 + 83)), (1, .int v1), (2, .int v2), (3, .int v3_177), (4, .int v4_177), (5, .int v5_177), (6, .int v6_177)] (by decide) rfl dX12_passing_177 ?_
      refine ya_goto 38 (by decide) dX12_passing_180 ?_
      refine ya_sub [(0, .ref (X.2.1 + 83)), (1, .int v1), (2, .int v2), (3, .int v3_177), (4, .int v4_177), (5, .int v5_177), (6, .int v6_177), (7, .int (v7 + 1))] [1, 2, 3, 4, 5, 6, 7, 0] rfl ?_
      exact ih _ _ _ _ _ h
set_option maxRecDepth 20000 in
theorem c_X12_passing {X : ya_X} {G : ya_G} {v1 : Int32} {v2 : Int32} {d : ya_D} {rr : Int32} (hG : ya_Bk ya_sh ya_ln G 0) (h : f_X12_passing v1 v2 d = some rr) : ya_Ct X yX12_passing Y_X12_passing [.ref (X.2.1 + 83), .int v1, .int v2] G d (some (.int rr), G, d) := by
  refine ya_ct (by decide +kernel) rfl rfl (Nat.le_of_ble_eq_true rfl) ?_
  unfold f_X12_passing at h
  show ya_E X Y_X12_passing (ya_M X (some (.int rr), G, d) 0 0) 0 [(0, .ref (X.2.1 + 83)), (1, .int v1), (2, .int v2)] [] G d 0 0
  refine ya_aload_n 0 rfl dX12_passing_0 ?_
  refine ya_iload_n 1 rfl dX12_passing_1 ?_
  refine ya_i2l dX12_passing_2 ?_
  obtain ⟨x3, e3, h⟩ := ya_ob h
  refine ya_callVi (S := []) (c_X12_isThing hG e3) m_X12_isThing ⟨rfl, rfl⟩ ml_X12_98 rfl ⟨Nat.le_of_ble_eq_true rfl, Nat.le_of_ble_eq_true rfl⟩ (Nat.le_of_ble_eq_true rfl) (hG.lt0 83 (by decide)) (hG.o0 83 rfl) (by decide) rfl rfl ⟨Nat.le_refl _, Nat.le_refl _⟩ dX12_passing_3 rfl ?_
  refine ya_j0_s h (ya_E X Y_X12_passing (ya_M X (some (.int rr), G, d) 0 0) 21 [] [] G d 0 0) (fun h => ?_) (fun k21 hk21 h => ?_)
  · refine ya_bipush (-2) (by decide) dX12_passing_21 ?_
    cases h
    exact ya_iret rfl rfl rfl rfl rfl (Nat.le_refl _) dX12_passing_23
  · refine ya_ifeq 21 (by decide) dX12_passing_6 (fun c => ?_) (fun c => ?_)
    · replace h := ya_itet h c
      refine ya_sub [] [] rfl ?_
      exact hk21  h
    · replace h := ya_itef h c
      refine ya_iload_n 2 rfl dX12_passing_9 ?_
      refine ya_i2l dX12_passing_10 ?_
      refine ya_lconst 0 rfl dX12_passing_11 ?_
      refine ya_ldc2 3 kc_X12_333 dX12_passing_12 ?_
      obtain ⟨x15, e15, h⟩ := ya_ob h
      refine ya_callSi (S := []) (c_X12_in hG e15) m_X12_in ⟨rfl, rfl⟩ ml_X12_94 rfl ⟨Nat.le_of_ble_eq_true rfl, Nat.le_of_ble_eq_true rfl⟩ (Nat.le_of_ble_eq_true rfl) ⟨Nat.le_refl _, Nat.le_refl _⟩ dX12_passing_15 rfl ?_
      refine ya_ifne 24 (by decide) dX12_passing_18 (fun c => ?_) (fun c => ?_)
      · replace h := ya_itef h c
        refine ya_iconst 0 (by decide) dX12_passing_24 ?_
        refine ya_istore_n [(3, .int 0), (0, .ref (X.2.1 + 83)), (1, .int v1), (2, .int v2)] (by decide) rfl dX12_passing_25 ?_
        refine ya_iconst (-1) (by decide) dX12_passing_26 ?_
        refine ya_istore [(4, .int (-1)), (3, .int 0), (0, .ref (X.2.1 + 83)), (1, .int v1), (2, .int v2)] (by decide) rfl dX12_passing_27 ?_
        refine ya_iconst (-1) (by decide) dX12_passing_29 ?_
        refine ya_istore [(5, .int (-1)), (4, .int (-1)), (3, .int 0), (0, .ref (X.2.1 + 83)), (1, .int v1), (2, .int v2)] (by decide) rfl dX12_passing_30 ?_
        refine ya_iconst (-1) (by decide) dX12_passing_32 ?_
        refine ya_istore [(6, .int (-1)), (5, .int (-1)), (4, .int (-1)), (3, .int 0), (0, .ref (X.2.1 + 83)), (1, .int v1), (2, .int v2)] (by decide) rfl dX12_passing_33 ?_
        refine ya_iconst 0 (by decide) dX12_passing_35 ?_
        refine ya_istore [(7, .int 0), (6, .int (-1)), (5, .int (-1)), (4, .int (-1)), (3, .int 0), (0, .ref (X.2.1 + 83)), (1, .int v1), (2, .int v2)] (by decide) rfl dX12_passing_36 ?_
        refine ya_sub [(0, .ref (X.2.1 + 83)), (1, .int v1), (2, .int v2), (3, .int 0), (4, .int (-1)), (5, .int (-1)), (6, .int (-1)), (7, .int 0)] [5, 6, 7, 4, 3, 2, 1, 0] rfl ?_
        refine w_X12_passing_L38 hG (fun v3_183 v4_183 v5_183 v6_183 h => ?_) ya_F _ _ _ _ _ h
        refine ya_iload_n 0 rfl dX12_passing_183 ?_
        refine ya_ifne 191 (by decide) dX12_passing_184 (fun c => ?_) (fun c => ?_)
        · replace h := ya_itef h c
          refine ya_iload_n 0 rfl dX12_passing_191 ?_
          refine ya_iconst 1 (by decide) dX12_passing_192 ?_
          refine ya_icmp_ne 201 (by decide) dX12_passing_193 (fun c => ?_) (fun c => ?_)
          · replace h := ya_itef h c
            refine ya_iload_n 0 rfl dX12_passing_201 ?_
            refine ya_iconst 2 (by decide) dX12_passing_202 ?_
            refine ya_icmp_ne 211 (by decide) dX12_passing_203 (fun c => ?_) (fun c => ?_)
            · replace h := ya_itef h c
              refine ya_iload 4 rfl dX12_passing_211 ?_
              cases h
              exact ya_iret rfl rfl rfl rfl rfl (Nat.le_refl _) dX12_passing_213
            · replace h := ya_itet h c
              refine ya_iload 3 rfl dX12_passing_206 ?_
              refine ya_goto 213 (by decide) dX12_passing_208 ?_
              cases h
              exact ya_iret rfl rfl rfl rfl rfl (Nat.le_refl _) dX12_passing_213
          · replace h := ya_itet h c
            refine ya_iload 2 rfl dX12_passing_196 ?_
            refine ya_goto 213 (by decide) dX12_passing_198 ?_
            cases h
            exact ya_iret rfl rfl rfl rfl rfl (Nat.le_refl _) dX12_passing_213
        · replace h := ya_itet h c
          refine ya_iload_n 1 rfl dX12_passing_187 ?_
          refine ya_goto 213 (by decide) dX12_passing_188 ?_
          cases h
          exact ya_iret rfl rfl rfl rfl rfl (Nat.le_refl _) dX12_passing_213
      · replace h := ya_itet h c
        refine ya_sub [] [] rfl ?_
        exact hk21  h
set_option maxRecDepth 20000 in
theorem w_X12_like_L69 {X : ya_X} {G : ya_G} {v1 : Int32} {v2 : Int32} {v3 : Int32} {v4 : Int32} {v5 : Int32} {rr : (Int32 × ya_D)} (hG : ya_Bk ya_sh ya_ln G 0) : ∀ (n : Nat) (v6 : Int32) (v7 : Int32) (d : ya_D), f_X12_like_L69 v1 v2 v3 v4 v5 n v6 v7 d = some rr → ya_E X Y_X12_like (ya_M X (some (.int rr.1), G, rr.2) 0 0) 69 [(0, .ref (X.2.1 + 83)), (1, .int v1), (2, .int v2), (3, .int v3), (4, .int v4), (5, .int v5), (6, .int v6), (7, .int v7)] [] G d 0 0 := by
  intro n
  induction n with
  | zero => intro v6 v7 d h; cases h
  | succ n ih =>
    intro v6 v7 d h
    rw [f_X12_like_L69] at h
    refine ya_iload 7 rfl dX12_like_69 ?_
    refine ya_aload_n 0 rfl dX12_like_71 ?_
    refine ya_getR fo_X12_9 (hG.o0 83 rfl) (hG.lt0 83 (by decide)) (hG.l0 82 rfl) dX12_like_72 ?_
    refine ya_iconst 0 (by decide) dX12_like_75 ?_
    refine ya_iald (hG.s0 84 rfl) (hG.lt0 84 (by decide)) dX12_like_76 h (fun x76 h => ?_)
    refine ya_icmp_ge 137 (by decide) dX12_like_77 (fun c => ?_) (fun c => ?_)
    · replace h := ya_itet h c
      refine ya_iload 6 rfl dX12_like_137 ?_
      cases h
      exact ya_iret rfl rfl rfl rfl rfl (Nat.le_refl _) dX12_like_139
    · replace h := ya_itef h c
      refine ya_iload_n 3 rfl dX12_like_80 ?_
      refine ya_aload_n 0 rfl dX12_like_81 ?_
      refine ya_iload_n 2 rfl dX12_like_82 ?_
      refine ya_iload 7 rfl dX12_like_83 ?_
      obtain ⟨x85, e85, h⟩ := ya_ob h
      refine ya_callVi (S := [.int v3]) (c_X12_priceOf hG e85) m_X12_priceOf ⟨rfl, rfl⟩ ml_X12_263 rfl ⟨Nat.le_of_ble_eq_true rfl, Nat.le_of_ble_eq_true rfl⟩ (Nat.le_of_ble_eq_true rfl) (hG.lt0 83 (by decide)) (hG.o0 83 rfl) (by decide) rfl rfl ⟨Nat.le_refl _, Nat.le_refl _⟩ dX12_like_85 rfl ?_
      refine ya_imul dX12_like_88 ?_
      refine ya_iload 5 rfl dX12_like_89 ?_
      refine ya_aload_n 0 rfl dX12_like_91 ?_
      refine ya_iload 4 rfl dX12_like_92 ?_
      refine ya_iload 7 rfl dX12_like_94 ?_
      obtain ⟨x96, e96, h⟩ := ya_ob h
      refine ya_callVi (S := [.int v5, .int (v3 * x85)]) (c_X12_priceOf hG e96) m_X12_priceOf ⟨rfl, rfl⟩ ml_X12_263 rfl ⟨Nat.le_of_ble_eq_true rfl, Nat.le_of_ble_eq_true rfl⟩ (Nat.le_of_ble_eq_true rfl) (hG.lt0 83 (by decide)) (hG.o0 83 rfl) (by decide) rfl rfl ⟨Nat.le_refl _, Nat.le_refl _⟩ dX12_like_96 rfl ?_
      refine ya_imul dX12_like_99 ?_
      refine ya_iadd dX12_like_100 ?_
      refine ya_iload_n 3 rfl dX12_like_101 ?_
      refine ya_iload 5 rfl dX12_like_102 ?_
      refine ya_iadd dX12_like_104 ?_
      refine ya_idivb dX12_like_105 h (fun x105 h => ?_)
      refine ya_istore [(8, .int x105), (0, .ref (X.2.1 + 83)), (1, .int v1), (2, .int v2), (3, .int v3), (4, .int v4), (5, .int v5), (6, .int v6), (7, .int v7)] (by decide) rfl dX12_like_106 ?_
      refine ya_aload_n 1 rfl dX12_like_108 ?_
      refine ya_getR fo_X12_9 (hG.o0 83 rfl) (hG.lt0 83 (by decide)) (hG.l0 82 rfl) dX12_like_109 ?_
      refine ya_bipush 11 (by decide) dX12_like_112 ?_
      refine ya_iload_n 2 rfl dX12_like_114 ?_
      refine ya_iload 8 rfl dX12_like_115 ?_
      obtain ⟨x117, e117, h⟩ := ya_ob h
      refine ya_callSi (S := [.int 11, .ref (X.2.1 + 84)]) (c_X12_at hG e117) m_X12_at ⟨rfl, rfl⟩ ml_X12_105 rfl ⟨Nat.le_of_ble_eq_true rfl, Nat.le_of_ble_eq_true rfl⟩ (Nat.le_of_ble_eq_true rfl) ⟨Nat.le_refl _, Nat.le_refl _⟩ dX12_like_117 rfl ?_
      refine ya_iadd dX12_like_120 ?_
      refine ya_iload 0 rfl dX12_like_121 ?_
      refine ya_iast (hG.s0 84 rfl) (hG.lt0 84 (by decide)) dX12_like_123 h (fun d123 h => ?_)
      refine ya_iload 7 rfl dX12_like_124 ?_
      refine ya_iload 0 rfl dX12_like_126 ?_
      refine ya_iadd dX12_like_128 ?_
      refine ya_istore [(6, .int (v6 + x105)), (8, .int x105), (0, .ref (X.2.1 + 83)), (1, .int v1), (2, .int v2), (3, .int v3), (4, .int v4), (5, .int v5), (7, .int v7)] (by decide) rfl dX12_like_129 ?_
      refine ya_iinc (v7 + 1) rfl 8 rfl [(7, .int (v7 + 1)), (6, .int (v6 + x105)), (8, .int x105), (0, .ref (X.2.1 + 83)), (1, .int v1), (2, .int v2), (3, .int v3), (4, .int v4), (5, .int v5)] (by decide) rfl dX12_like_131 ?_
      refine ya_goto 69 (by decide) dX12_like_134 ?_
      refine ya_sub [(0, .ref (X.2.1 + 83)), (1, .int v1), (2, .int v2), (3, .int v3), (4, .int v4), (5, .int v5), (6, .int (v6 + x105)), (7, .int (v7 + 1))] [3, 4, 5, 6, 7, 8, 1, 0] rfl ?_
      exact ih _ _ _ h
set_option maxRecDepth 20000 in
theorem c_X12_like {X : ya_X} {G : ya_G} {v1 : Int32} {v2 : Int32} {v3 : Int32} {v4 : Int32} {v5 : Int32} {d : ya_D} {rr : (Int32 × ya_D)} (hG : ya_Bk ya_sh ya_ln G 0) (h : f_X12_like v1 v2 v3 v4 v5 d = some rr) : ya_Ct X yX12_like Y_X12_like [.ref (X.2.1 + 83), .int v1, .int v2, .int v3, .int v4, .int v5] G d (some (.int rr.1), G, rr.2) := by
  refine ya_ct (by decide +kernel) rfl rfl (Nat.le_of_ble_eq_true rfl) ?_
  unfold f_X12_like at h
  show ya_E X Y_X12_like (ya_M X (some (.int rr.1), G, rr.2) 0 0) 0 [(0, .ref (X.2.1 + 83)), (1, .int v1), (2, .int v2), (3, .int v3), (4, .int v4), (5, .int v5)] [] G d 0 0
  refine ya_aload_n 0 rfl dX12_like_0 ?_
  refine ya_iload_n 1 rfl dX12_like_1 ?_
  refine ya_i2l dX12_like_2 ?_
  obtain ⟨x3, e3, h⟩ := ya_ob h
  refine ya_callVi (S := []) (c_X12_isThing hG e3) m_X12_isThing ⟨rfl, rfl⟩ ml_X12_98 rfl ⟨Nat.le_of_ble_eq_true rfl, Nat.le_of_ble_eq_true rfl⟩ (Nat.le_of_ble_eq_true rfl) (hG.lt0 83 (by decide)) (hG.o0 83 rfl) (by decide) rfl rfl ⟨Nat.le_refl _, Nat.le_refl _⟩ dX12_like_3 rfl ?_
  refine ya_j0_s h (ya_E X Y_X12_like (ya_M X (some (.int rr.1), G, rr.2) 0 0) 60 [] [] G d 0 0) (fun h => ?_) (fun k60 hk60 h => ?_)
  · refine ya_bipush (-2) (by decide) dX12_like_60 ?_
    cases h
    exact ya_iret rfl rfl rfl rfl rfl (Nat.le_refl _) dX12_like_62
  · refine ya_ifeq 60 (by decide) dX12_like_6 (fun c => ?_) (fun c => ?_)
    · replace h := ya_itet h c
      refine ya_sub [] [] rfl ?_
      exact hk60  h
    · replace h := ya_itef h c
      refine ya_aload_n 0 rfl dX12_like_9 ?_
      refine ya_iload_n 2 rfl dX12_like_10 ?_
      refine ya_i2l dX12_like_11 ?_
      obtain ⟨x12, e12, h⟩ := ya_ob h
      refine ya_callVi (S := []) (c_X12_isThing hG e12) m_X12_isThing ⟨rfl, rfl⟩ ml_X12_98 rfl ⟨Nat.le_of_ble_eq_true rfl, Nat.le_of_ble_eq_true rfl⟩ (Nat.le_of_ble_eq_true rfl) (hG.lt0 83 (by decide)) (hG.o0 83 rfl) (by decide) rfl rfl ⟨Nat.le_refl _, Nat.le_refl _⟩ dX12_like_12 rfl ?_
      refine ya_ifeq 60 (by decide) dX12_like_15 (fun c => ?_) (fun c => ?_)
      · replace h := ya_itet h c
        refine ya_sub [] [] rfl ?_
        exact hk60  h
      · replace h := ya_itef h c
        refine ya_aload_n 0 rfl dX12_like_18 ?_
        refine ya_iload 4 rfl dX12_like_19 ?_
        refine ya_i2l dX12_like_21 ?_
        obtain ⟨x22, e22, h⟩ := ya_ob h
        refine ya_callVi (S := []) (c_X12_isThing hG e22) m_X12_isThing ⟨rfl, rfl⟩ ml_X12_98 rfl ⟨Nat.le_of_ble_eq_true rfl, Nat.le_of_ble_eq_true rfl⟩ (Nat.le_of_ble_eq_true rfl) (hG.lt0 83 (by decide)) (hG.o0 83 rfl) (by decide) rfl rfl ⟨Nat.le_refl _, Nat.le_refl _⟩ dX12_like_22 rfl ?_
        refine ya_ifeq 60 (by decide) dX12_like_25 (fun c => ?_) (fun c => ?_)
        · replace h := ya_itet h c
          refine ya_sub [] [] rfl ?_
          exact hk60  h
        · replace h := ya_itef h c
          refine ya_iload_n 3 rfl dX12_like_28 ?_
          refine ya_i2l dX12_like_29 ?_
          refine ya_lconst 0 rfl dX12_like_30 ?_
          refine ya_ldc2 9 kc_X12_395 dX12_like_31 ?_
          obtain ⟨x34, e34, h⟩ := ya_ob h
          refine ya_callSi (S := []) (c_X12_in hG e34) m_X12_in ⟨rfl, rfl⟩ ml_X12_94 rfl ⟨Nat.le_of_ble_eq_true rfl, Nat.le_of_ble_eq_true rfl⟩ (Nat.le_of_ble_eq_true rfl) ⟨Nat.le_refl _, Nat.le_refl _⟩ dX12_like_34 rfl ?_
          refine ya_ifeq 60 (by decide) dX12_like_37 (fun c => ?_) (fun c => ?_)
          · replace h := ya_itet h c
            refine ya_sub [] [] rfl ?_
            exact hk60  h
          · replace h := ya_itef h c
            refine ya_iload 5 rfl dX12_like_40 ?_
            refine ya_i2l dX12_like_42 ?_
            refine ya_lconst 0 rfl dX12_like_43 ?_
            refine ya_ldc2 9 kc_X12_395 dX12_like_44 ?_
            obtain ⟨x47, e47, h⟩ := ya_ob h
            refine ya_callSi (S := []) (c_X12_in hG e47) m_X12_in ⟨rfl, rfl⟩ ml_X12_94 rfl ⟨Nat.le_of_ble_eq_true rfl, Nat.le_of_ble_eq_true rfl⟩ (Nat.le_of_ble_eq_true rfl) ⟨Nat.le_refl _, Nat.le_refl _⟩ dX12_like_47 rfl ?_
            refine ya_ifeq 60 (by decide) dX12_like_50 (fun c => ?_) (fun c => ?_)
            · replace h := ya_itet h c
              refine ya_sub [] [] rfl ?_
              exact hk60  h
            · replace h := ya_itef h c
              refine ya_iload_n 3 rfl dX12_like_53 ?_
              refine ya_iload 5 rfl dX12_like_54 ?_
              refine ya_iadd dX12_like_56 ?_
              refine ya_ifne 63 (by decide) dX12_like_57 (fun c => ?_) (fun c => ?_)
              · replace h := ya_itef h c
                refine ya_iconst 0 (by decide) dX12_like_63 ?_
                refine ya_istore [(6, .int 0), (0, .ref (X.2.1 + 83)), (1, .int v1), (2, .int v2), (3, .int v3), (4, .int v4), (5, .int v5)] (by decide) rfl dX12_like_64 ?_
                refine ya_iconst 0 (by decide) dX12_like_66 ?_
                refine ya_istore [(7, .int 0), (6, .int 0), (0, .ref (X.2.1 + 83)), (1, .int v1), (2, .int v2), (3, .int v3), (4, .int v4), (5, .int v5)] (by decide) rfl dX12_like_67 ?_
                refine ya_sub [(0, .ref (X.2.1 + 83)), (1, .int v1), (2, .int v2), (3, .int v3), (4, .int v4), (5, .int v5), (6, .int 0), (7, .int 0)] [2, 3, 4, 5, 6, 7, 1, 0] rfl ?_
                refine w_X12_like_L69 hG  ya_F _ _ _ h
              · replace h := ya_itet h c
                refine ya_sub [] [] rfl ?_
                exact hk60  h
set_option maxRecDepth 20000 in
theorem c_X12_queue {X : ya_X} {G : ya_G} {v1 : Int32} {v2 : Int32} {d : ya_D} {rr : (Int32 × ya_D)} (hG : ya_Bk ya_sh ya_ln G 0) (h : f_X12_queue v1 v2 d = some rr) : ya_Ct X yX12_queue Y_X12_queue [.ref (X.2.1 + 83), .int v1, .int v2] G d (some (.int rr.1), G, rr.2) := by
  refine ya_ct (by decide +kernel) rfl rfl (Nat.le_of_ble_eq_true rfl) ?_
  unfold f_X12_queue at h
  show ya_E X Y_X12_queue (ya_M X (some (.int rr.1), G, rr.2) 0 0) 0 [(0, .ref (X.2.1 + 83)), (1, .int v1), (2, .int v2)] [] G d 0 0
  refine ya_aload_n 0 rfl dX12_queue_0 ?_
  refine ya_iload_n 1 rfl dX12_queue_1 ?_
  refine ya_iload_n 2 rfl dX12_queue_2 ?_
  obtain ⟨x3, e3, h⟩ := ya_ob h
  refine ya_callVi (S := []) (c_X12_areSo hG e3) m_X12_areSo ⟨rfl, rfl⟩ ml_X12_307 rfl ⟨Nat.le_of_ble_eq_true rfl, Nat.le_of_ble_eq_true rfl⟩ (Nat.le_of_ble_eq_true rfl) (hG.lt0 83 (by decide)) (hG.o0 83 rfl) (by decide) rfl rfl ⟨Nat.le_refl _, Nat.le_refl _⟩ dX12_queue_3 rfl ?_
  refine ya_ifne 12 (by decide) dX12_queue_6 (fun c => ?_) (fun c => ?_)
  · replace h := ya_itef h c
    refine ya_aload_n 0 rfl dX12_queue_12 ?_
    refine ya_lconst 1 rfl dX12_queue_13 ?_
    obtain ⟨d14, e14, h⟩ := ya_ob h
    refine ya_callVv (S := []) (c_X12_runs hG e14) m_X12_runs ⟨rfl, rfl⟩ ml_X12_311 rfl ⟨Nat.le_of_ble_eq_true rfl, Nat.le_of_ble_eq_true rfl⟩ (Nat.le_of_ble_eq_true rfl) (hG.lt0 83 (by decide)) (hG.o0 83 rfl) (by decide) rfl rfl ⟨Nat.le_refl _, Nat.le_refl _⟩ dX12_queue_14 rfl ?_
    refine ya_iconst 0 (by decide) dX12_queue_17 ?_
    refine ya_aload_n 0 rfl dX12_queue_18 ?_
    refine ya_getR fo_X12_40 (hG.o0 83 rfl) (hG.lt0 83 (by decide)) (hG.l0 90 rfl) dX12_queue_19 ?_
    refine ya_iload_n 1 rfl dX12_queue_22 ?_
    refine ya_iload_n 2 rfl dX12_queue_23 ?_
    obtain ⟨x24, e24, h⟩ := ya_ob h
    refine ya_callSi (S := [.ref (X.2.1 + 92), .int 0]) (c_X12_at hG e24) m_X12_at ⟨rfl, rfl⟩ ml_X12_105 rfl ⟨Nat.le_of_ble_eq_true rfl, Nat.le_of_ble_eq_true rfl⟩ (Nat.le_of_ble_eq_true rfl) ⟨Nat.le_refl _, Nat.le_refl _⟩ dX12_queue_24 rfl ?_
    refine ya_iald (hG.s0 92 rfl) (hG.lt0 92 (by decide)) dX12_queue_27 h (fun x27 h => ?_)
    refine ya_aload_n 0 rfl dX12_queue_28 ?_
    refine ya_getR fo_X12_37 (hG.o0 83 rfl) (hG.lt0 83 (by decide)) (hG.l0 89 rfl) dX12_queue_29 ?_
    refine ya_iload_n 1 rfl dX12_queue_32 ?_
    refine ya_iload_n 2 rfl dX12_queue_33 ?_
    obtain ⟨x34, e34, h⟩ := ya_ob h
    refine ya_callSi (S := [.ref (X.2.1 + 91), .int x27, .int 0]) (c_X12_at hG e34) m_X12_at ⟨rfl, rfl⟩ ml_X12_105 rfl ⟨Nat.le_of_ble_eq_true rfl, Nat.le_of_ble_eq_true rfl⟩ (Nat.le_of_ble_eq_true rfl) ⟨Nat.le_refl _, Nat.le_refl _⟩ dX12_queue_34 rfl ?_
    refine ya_iald (hG.s0 91 rfl) (hG.lt0 91 (by decide)) dX12_queue_37 h (fun x37 h => ?_)
    refine ya_isub dX12_queue_38 ?_
    refine ya_mmax ml_X12_341 wm_max1 wm_max2 wm_max3 (by decide) (Nat.le_of_ble_eq_true rfl) ⟨Nat.le_refl _, Nat.le_refl _⟩ dX12_queue_39 ?_
    cases h
    exact ya_iret rfl rfl rfl rfl rfl (Nat.le_refl _) dX12_queue_42
  · replace h := ya_itet h c
    refine ya_bipush (-2) (by decide) dX12_queue_9 ?_
    cases h
    exact ya_iret rfl rfl rfl rfl rfl (Nat.le_refl _) dX12_queue_11
set_option maxRecDepth 20000 in
theorem c_X12_spoils {X : ya_X} {G : ya_G} {v1 : Int32} {v2 : Int32} {d : ya_D} {rr : (Int32 × ya_D)} (hG : ya_Bk ya_sh ya_ln G 0) (h : f_X12_spoils v1 v2 d = some rr) : ya_Ct X yX12_spoils Y_X12_spoils [.ref (X.2.1 + 83), .int v1, .int v2] G d (some (.int rr.1), G, rr.2) := by
  refine ya_ct (by decide +kernel) rfl rfl (Nat.le_of_ble_eq_true rfl) ?_
  unfold f_X12_spoils at h
  show ya_E X Y_X12_spoils (ya_M X (some (.int rr.1), G, rr.2) 0 0) 0 [(0, .ref (X.2.1 + 83)), (1, .int v1), (2, .int v2)] [] G d 0 0
  refine ya_aload_n 0 rfl dX12_spoils_0 ?_
  refine ya_iload_n 1 rfl dX12_spoils_1 ?_
  refine ya_iload_n 2 rfl dX12_spoils_2 ?_
  obtain ⟨x3, e3, h⟩ := ya_ob h
  refine ya_callVi (S := []) (c_X12_areSo hG e3) m_X12_areSo ⟨rfl, rfl⟩ ml_X12_307 rfl ⟨Nat.le_of_ble_eq_true rfl, Nat.le_of_ble_eq_true rfl⟩ (Nat.le_of_ble_eq_true rfl) (hG.lt0 83 (by decide)) (hG.o0 83 rfl) (by decide) rfl rfl ⟨Nat.le_refl _, Nat.le_refl _⟩ dX12_spoils_3 rfl ?_
  refine ya_ifne 12 (by decide) dX12_spoils_6 (fun c => ?_) (fun c => ?_)
  · replace h := ya_itef h c
    refine ya_aload_n 0 rfl dX12_spoils_12 ?_
    refine ya_lconst 1 rfl dX12_spoils_13 ?_
    obtain ⟨d14, e14, h⟩ := ya_ob h
    refine ya_callVv (S := []) (c_X12_runs hG e14) m_X12_runs ⟨rfl, rfl⟩ ml_X12_311 rfl ⟨Nat.le_of_ble_eq_true rfl, Nat.le_of_ble_eq_true rfl⟩ (Nat.le_of_ble_eq_true rfl) (hG.lt0 83 (by decide)) (hG.o0 83 rfl) (by decide) rfl rfl ⟨Nat.le_refl _, Nat.le_refl _⟩ dX12_spoils_14 rfl ?_
    refine ya_aload_n 0 rfl dX12_spoils_17 ?_
    refine ya_getR fo_X12_64 (hG.o0 83 rfl) (hG.lt0 83 (by decide)) (hG.l0 98 rfl) dX12_spoils_18 ?_
    refine ya_iload_n 1 rfl dX12_spoils_21 ?_
    refine ya_iload_n 2 rfl dX12_spoils_22 ?_
    obtain ⟨x23, e23, h⟩ := ya_ob h
    refine ya_callSi (S := [.ref (X.2.1 + 100)]) (c_X12_at hG e23) m_X12_at ⟨rfl, rfl⟩ ml_X12_105 rfl ⟨Nat.le_of_ble_eq_true rfl, Nat.le_of_ble_eq_true rfl⟩ (Nat.le_of_ble_eq_true rfl) ⟨Nat.le_refl _, Nat.le_refl _⟩ dX12_spoils_23 rfl ?_
    refine ya_iald (hG.s0 100 rfl) (hG.lt0 100 (by decide)) dX12_spoils_26 h (fun x26 h => ?_)
    cases h
    exact ya_iret rfl rfl rfl rfl rfl (Nat.le_refl _) dX12_spoils_27
  · replace h := ya_itet h c
    refine ya_bipush (-2) (by decide) dX12_spoils_9 ?_
    cases h
    exact ya_iret rfl rfl rfl rfl rfl (Nat.le_refl _) dX12_spoils_11
set_option maxRecDepth 20000 in
theorem w_X12_shape_L41 {X : ya_X} {G : ya_G} {v1 : Int32} {v2 : Int32} {d : ya_D} {rr : Int32} {e172 : Int32 → Int32 → Int32 → Int32 → Option Int32} (hG : ya_Bk ya_sh ya_ln G 0) (he172 : ∀ (v3 : Int32) (v4 : Int32) (v5 : Int32) (v7 : Int32), e172 v3 v4 v5 v7 = some rr → ya_E X Y_X12_shape (ya_M X (some (.int rr), G, d) 0 0) 172 [(2, .int v2), (3, .int v3), (4, .int v4), (5, .int v5), (7, .int v7)] [] G d 0 0) : ∀ (n : Nat) (v3 : Int32) (v4 : Int32) (v5 : Int32) (v6 : Int32) (v7 : Int32) (v8 : Int32), f_X12_shape_L41 v1 v2 d e172 n v3 v4 v5 v6 v7 v8 = some rr → ya_E X Y_X12_shape (ya_M X (some (.int rr), G, d) 0 0) 41 [(0, .ref (X.2.1 + 83)), (1, .int v1), (2, .int v2), (3, .int v3), (4, .int v4), (5, .int v5), (6, .int v6), (7, .int v7), (8, .int v8)] [] G d 0 0 := by
  intro n
  induction n with
  | zero => intro v3 v4 v5 v6 v7 v8 h; cases h
  | succ n ih =>
    intro v3 v4 v5 v6 v7 v8 h
    rw [f_X12_shape_L41] at h
    refine ya_iload 8 rfl dX12_shape_41 ?_
    refine ya_aload_n 0 rfl dX12_shape_43 ?_
    refine ya_getR fo_X12_9 (hG.o0 83 rfl) (hG.lt0 83 (by decide)) (hG.l0 82 rfl) dX12_shape_44 ?_
    refine ya_iconst 0 (by decide) dX12_shape_47 ?_
    refine ya_iald (hG.s0 84 rfl) (hG.lt0 84 (by decide)) dX12_shape_48 h (fun x48 h => ?_)
    refine ya_icmp_ge 172 (by decide) dX12_shape_49 (fun c => ?_) (fun c => ?_)
    · replace h := ya_itet h c
      refine ya_sub [(2, .int v2), (3, .int v3), (4, .int v4), (5, .int v5), (7, .int v7)] [2, 3, 4, 5, 7] rfl ?_
      exact he172 _ _ _ _ h
    · replace h := ya_itef h c
      refine ya_aload_n 0 rfl dX12_shape_52 ?_
      refine ya_iload_n 1 rfl dX12_shape_53 ?_
      refine ya_iload 8 rfl dX12_shape_54 ?_
      obtain ⟨x56, e56, h⟩ := ya_ob h
      refine ya_callVi (S := []) (c_X12_priceOf hG e56) m_X12_priceOf ⟨rfl, rfl⟩ ml_X12_263 rfl ⟨Nat.le_of_ble_eq_true rfl, Nat.le_of_ble_eq_true rfl⟩ (Nat.le_of_ble_eq_true rfl) (hG.lt0 83 (by decide)) (hG.o0 83 rfl) (by decide) rfl rfl ⟨Nat.le_refl _, Nat.le_refl _⟩ dX12_shape_56 rfl ?_
      refine ya_aload_n 0 rfl dX12_shape_59 ?_
      refine ya_iload_n 1 rfl dX12_shape_60 ?_
      refine ya_iload_n 3 rfl dX12_shape_61 ?_
      obtain ⟨x62, e62, h⟩ := ya_ob h
      refine ya_callVi (S := [.int x56]) (c_X12_priceOf hG e62) m_X12_priceOf ⟨rfl, rfl⟩ ml_X12_263 rfl ⟨Nat.le_of_ble_eq_true rfl, Nat.le_of_ble_eq_true rfl⟩ (Nat.le_of_ble_eq_true rfl) (hG.lt0 83 (by decide)) (hG.o0 83 rfl) (by decide) rfl rfl ⟨Nat.le_refl _, Nat.le_refl _⟩ dX12_shape_62 rfl ?_
      refine ya_j1_s h (fun t0_74 => ya_E X Y_X12_shape (ya_M X (some (.int rr), G, d) 0 0) 74 [(0, .ref (X.2.1 + 83)), (1, .int v1), (2, .int v2), (4, .int v4), (5, .int v5), (6, .int v6), (7, .int v7), (8, .int v8)] [.int t0_74] G d 0 0) (fun t0_74 h => ?_) (fun k74 hk74 h => ?_)
      · refine ya_istore_n [(3, .int t0_74), (0, .ref (X.2.1 + 83)), (1, .int v1), (2, .int v2), (4, .int v4), (5, .int v5), (6, .int v6), (7, .int v7), (8, .int v8)] (by decide) rfl dX12_shape_74 ?_
        refine ya_aload_n 1 rfl dX12_shape_75 ?_
        refine ya_iload_n 2 rfl dX12_shape_76 ?_
        refine ya_iload 8 rfl dX12_shape_77 ?_
        obtain ⟨x79, e79, h⟩ := ya_ob h
        refine ya_callVi (S := []) (c_X12_priceOf hG e79) m_X12_priceOf ⟨rfl, rfl⟩ ml_X12_263 rfl ⟨Nat.le_of_ble_eq_true rfl, Nat.le_of_ble_eq_true rfl⟩ (Nat.le_of_ble_eq_true rfl) (hG.lt0 83 (by decide)) (hG.o0 83 rfl) (by decide) rfl rfl ⟨Nat.le_refl _, Nat.le_refl _⟩ dX12_shape_79 rfl ?_
        refine ya_aload_n 1 rfl dX12_shape_82 ?_
        refine ya_iload_n 2 rfl dX12_shape_83 ?_
        refine ya_iload 4 rfl dX12_shape_84 ?_
        obtain ⟨x86, e86, h⟩ := ya_ob h
        refine ya_callVi (S := [.int x79]) (c_X12_priceOf hG e86) m_X12_priceOf ⟨rfl, rfl⟩ ml_X12_263 rfl ⟨Nat.le_of_ble_eq_true rfl, Nat.le_of_ble_eq_true rfl⟩ (Nat.le_of_ble_eq_true rfl) (hG.lt0 83 (by decide)) (hG.o0 83 rfl) (by decide) rfl rfl ⟨Nat.le_refl _, Nat.le_refl _⟩ dX12_shape_86 rfl ?_
        refine ya_j1_s h (fun t0_99 => ya_E X Y_X12_shape (ya_M X (some (.int rr), G, d) 0 0) 99 [(0, .ref (X.2.1 + 83)), (1, .int v1), (2, .int v2), (3, .int t0_74), (5, .int v5), (6, .int v6), (7, .int v7), (8, .int v8)] [.int t0_99] G d 0 0) (fun t0_99 h => ?_) (fun k99 hk99 h => ?_)
        · refine ya_istore [(4, .int t0_99), (0, .ref (X.2.1 + 83)), (1, .int v1), (2, .int v2), (3, .int t0_74), (5, .int v5), (6, .int v6), (7, .int v7), (8, .int v8)] (by decide) rfl dX12_shape_99 ?_
          refine ya_aload_n 1 rfl dX12_shape_101 ?_
          refine ya_iload_n 2 rfl dX12_shape_102 ?_
          refine ya_iload 8 rfl dX12_shape_103 ?_
          obtain ⟨x105, e105, h⟩ := ya_ob h
          refine ya_callVi (S := []) (c_X12_priceOf hG e105) m_X12_priceOf ⟨rfl, rfl⟩ ml_X12_263 rfl ⟨Nat.le_of_ble_eq_true rfl, Nat.le_of_ble_eq_true rfl⟩ (Nat.le_of_ble_eq_true rfl) (hG.lt0 83 (by decide)) (hG.o0 83 rfl) (by decide) rfl rfl ⟨Nat.le_refl _, Nat.le_refl _⟩ dX12_shape_105 rfl ?_
          refine ya_aload_n 1 rfl dX12_shape_108 ?_
          refine ya_iload_n 2 rfl dX12_shape_109 ?_
          refine ya_iload 8 rfl dX12_shape_110 ?_
          refine ya_iconst 1 (by decide) dX12_shape_112 ?_
          refine ya_isub dX12_shape_113 ?_
          obtain ⟨x114, e114, h⟩ := ya_ob h
          refine ya_callVi (S := [.int x105]) (c_X12_priceOf hG e114) m_X12_priceOf ⟨rfl, rfl⟩ ml_X12_263 rfl ⟨Nat.le_of_ble_eq_true rfl, Nat.le_of_ble_eq_true rfl⟩ (Nat.le_of_ble_eq_true rfl) (hG.lt0 83 (by decide)) (hG.o0 83 rfl) (by decide) rfl rfl ⟨Nat.le_refl _, Nat.le_refl _⟩ dX12_shape_114 rfl ?_
          refine ya_j1_s h (fun t0_125 => ya_E X Y_X12_shape (ya_M X (some (.int rr), G, d) 0 0) 125 [(0, .ref (X.2.1 + 83)), (1, .int v1), (2, .int v2), (3, .int t0_74), (4, .int t0_99), (5, .int v5), (6, .int v6), (7, .int v7), (8, .int v8)] [.int t0_125] G d 0 0) (fun t0_125 h => ?_) (fun k125 hk125 h => ?_)
          · refine ya_istore [(9, .int t0_125), (0, .ref (X.2.1 + 83)), (1, .int v1), (2, .int v2), (3, .int t0_74), (4, .int t0_99), (5, .int v5), (6, .int v6), (7, .int v7), (8, .int v8)] (by decide) rfl dX12_shape_125 ?_
            refine ya_iload 6 rfl dX12_shape_127 ?_
            refine ya_iload 0 rfl dX12_shape_129 ?_
            refine ya_j1_s h (fun t0_139 => ya_E X Y_X12_shape (ya_M X (some (.int rr), G, d) 0 0) 139 [(0, .ref (X.2.1 + 83)), (1, .int v1), (2, .int v2), (3, .int t0_74), (4, .int t0_99), (6, .int v6), (7, .int v7), (8, .int v8), (9, .int t0_125)] [.int t0_139, .int v5] G d 0 0) (fun t0_139 h => ?_) (fun k139 hk139 h => ?_)
            · refine ya_iadd dX12_shape_139 ?_
              refine ya_istore [(5, .int (v5 + t0_139)), (0, .ref (X.2.1 + 83)), (1, .int v1), (2, .int v2), (3, .int t0_74), (4, .int t0_99), (6, .int v6), (7, .int v7), (8, .int v8), (9, .int t0_125)] (by decide) rfl dX12_shape_140 ?_
              refine ya_iload 9 rfl dX12_shape_142 ?_
              refine ya_j1_s h (fun t0_155 => ya_E X Y_X12_shape (ya_M X (some (.int rr), G, d) 0 0) 155 [(0, .ref (X.2.1 + 83)), (1, .int v1), (2, .int v2), (3, .int t0_74), (4, .int t0_99), (5, .int (v5 + t0_139)), (7, .int v7), (8, .int v8)] [.int t0_155] G d 0 0) (fun t0_155 h => ?_) (fun k155 hk155 h => ?_)
              · refine ya_istore [(6, .int t0_155), (0, .ref (X.2.1 + 83)), (1, .int v1), (2, .int v2), (3, .int t0_74), (4, .int t0_99), (5, .int (v5 + t0_139)), (7, .int v7), (8, .int v8)] (by decide) rfl dX12_shape_155 ?_
                refine ya_iload 7 rfl dX12_shape_157 ?_
                refine ya_iload 0 rfl dX12_shape_159 ?_
                refine ya_mmax ml_X12_341 wm_max1 wm_max2 wm_max3 (by decide) (Nat.le_of_ble_eq_true rfl) ⟨Nat.le_refl _, Nat.le_refl _⟩ dX12_shape_161 ?_
                refine ya_istore [(7, .int (ya_max v7 t0_155)), (6, .int t0_155), (0, .ref (X.2.1 + 83)), (1, .int v1), (2, .int v2), (3, .int t0_74), (4, .int t0_99), (5, .int (v5 + t0_139)), (8, .int v8)] (by decide) rfl dX12_shape_164 ?_
                refine ya_iinc (v8 + 1) rfl 8 rfl [(8, .int (v8 + 1)), (7, .int (ya_max v7 t0_155)), (6, .int t0_155), (0, .ref (X.2.1 + 83)), (1, .int v1), (2, .int v2), (3, .int t0_74), (4, .int t0_99), (5, .int (v5 + t0_139))] (by decide) rfl dX12_shape_166 ?_
                refine ya_goto 41 (by decide) dX12_shape_169 ?_
                refine ya_sub [(0, .ref (X.2.1 + 83)), (1, .int v1), (2, .int v2), (3, .int t0_74), (4, .int t0_99), (5, .int (v5 + t0_139)), (6, .int t0_155), (7, .int (ya_max v7 t0_155)), (8, .int (v8 + 1))] [3, 4, 5, 6, 7, 8, 2, 1, 0] rfl ?_
                exact ih _ _ _ _ _ _ h
              · refine ya_ifeq 154 (by decide) dX12_shape_144 (fun c => ?_) (fun c => ?_)
                · replace h := ya_itet h c
                  refine ya_iconst 1 (by decide) dX12_shape_154 ?_
                  refine ya_sub [(0, .ref (X.2.1 + 83)), (1, .int v1), (2, .int v2), (3, .int t0_74), (4, .int t0_99), (5, .int (v5 + t0_139)), (7, .int v7), (8, .int v8)] [1, 2, 3, 4, 5, 0, 7, 8] rfl ?_
                  exact hk155 _ h
                · replace h := ya_itef h c
                  refine ya_iload 6 rfl dX12_shape_147 ?_
                  refine ya_iconst 1 (by decide) dX12_shape_149 ?_
                  refine ya_iadd dX12_shape_150 ?_
                  refine ya_goto 155 (by decide) dX12_shape_151 ?_
                  refine ya_sub [(0, .ref (X.2.1 + 83)), (1, .int v1), (2, .int v2), (3, .int t0_74), (4, .int t0_99), (5, .int (v5 + t0_139)), (7, .int v7), (8, .int v8)] [1, 2, 3, 4, 5, 0, 7, 8] rfl ?_
                  exact hk155 _ h
            · refine ya_ifeq 138 (by decide) dX12_shape_131 (fun c => ?_) (fun c => ?_)
              · replace h := ya_itet h c
                refine ya_iconst 1 (by decide) dX12_shape_138 ?_
                refine ya_sub [(0, .ref (X.2.1 + 83)), (1, .int v1), (2, .int v2), (3, .int t0_74), (4, .int t0_99), (6, .int v6), (7, .int v7), (8, .int v8), (9, .int t0_125)] [1, 2, 3, 4, 5, 7, 8, 9, 0] rfl ?_
                exact hk139 _ h
              · replace h := ya_itef h c
                refine ya_iconst 0 (by decide) dX12_shape_134 ?_
                refine ya_goto 139 (by decide) dX12_shape_135 ?_
                refine ya_sub [(0, .ref (X.2.1 + 83)), (1, .int v1), (2, .int v2), (3, .int t0_74), (4, .int t0_99), (6, .int v6), (7, .int v7), (8, .int v8), (9, .int t0_125)] [1, 2, 3, 4, 5, 7, 8, 9, 0] rfl ?_
                exact hk139 _ h
          · refine ya_icmp_ne 124 (by decide) dX12_shape_117 (fun c => ?_) (fun c => ?_)
            · replace h := ya_itef h c
              refine ya_iconst 0 (by decide) dX12_shape_124 ?_
              refine ya_sub [(0, .ref (X.2.1 + 83)), (1, .int v1), (2, .int v2), (3, .int t0_74), (4, .int t0_99), (5, .int v5), (6, .int v6), (7, .int v7), (8, .int v8)] [1, 2, 3, 4, 0, 5, 6, 7, 8] rfl ?_
              exact hk125 _ h
            · replace h := ya_itet h c
              refine ya_iconst 1 (by decide) dX12_shape_120 ?_
              refine ya_goto 125 (by decide) dX12_shape_121 ?_
              refine ya_sub [(0, .ref (X.2.1 + 83)), (1, .int v1), (2, .int v2), (3, .int t0_74), (4, .int t0_99), (5, .int v5), (6, .int v6), (7, .int v7), (8, .int v8)] [1, 2, 3, 4, 0, 5, 6, 7, 8] rfl ?_
              exact hk125 _ h
        · refine ya_icmp_ge 97 (by decide) dX12_shape_89 (fun c => ?_) (fun c => ?_)
          · replace h := ya_itet h c
            refine ya_iload 4 rfl dX12_shape_97 ?_
            refine ya_sub [(0, .ref (X.2.1 + 83)), (1, .int v1), (2, .int v2), (3, .int t0_74), (5, .int v5), (6, .int v6), (7, .int v7), (8, .int v8)] [1, 2, 3, 0, 5, 6, 7, 8] rfl ?_
            exact hk99 _ h
          · replace h := ya_itef h c
            refine ya_iload 8 rfl dX12_shape_92 ?_
            refine ya_goto 99 (by decide) dX12_shape_94 ?_
            refine ya_sub [(0, .ref (X.2.1 + 83)), (1, .int v1), (2, .int v2), (3, .int t0_74), (5, .int v5), (6, .int v6), (7, .int v7), (8, .int v8)] [1, 2, 3, 0, 5, 6, 7, 8] rfl ?_
            exact hk99 _ h
      · refine ya_icmp_le 73 (by decide) dX12_shape_65 (fun c => ?_) (fun c => ?_)
        · replace h := ya_itet h c
          refine ya_iload_n 3 rfl dX12_shape_73 ?_
          refine ya_sub [(0, .ref (X.2.1 + 83)), (1, .int v1), (2, .int v2), (4, .int v4), (5, .int v5), (6, .int v6), (7, .int v7), (8, .int v8)] [0, 1, 2, 4, 5, 6, 7, 8] rfl ?_
          exact hk74 _ h
        · replace h := ya_itef h c
          refine ya_iload 8 rfl dX12_shape_68 ?_
          refine ya_goto 74 (by decide) dX12_shape_70 ?_
          refine ya_sub [(0, .ref (X.2.1 + 83)), (1, .int v1), (2, .int v2), (4, .int v4), (5, .int v5), (6, .int v6), (7, .int v7), (8, .int v8)] [0, 1, 2, 4, 5, 6, 7, 8] rfl ?_
          exact hk74 _ h
set_option maxRecDepth 20000 in
theorem c_X12_shape {X : ya_X} {G : ya_G} {v1 : Int32} {v2 : Int32} {d : ya_D} {rr : Int32} (hG : ya_Bk ya_sh ya_ln G 0) (h : f_X12_shape v1 v2 d = some rr) : ya_Ct X yX12_shape Y_X12_shape [.ref (X.2.1 + 83), .int v1, .int v2] G d (some (.int rr), G, d) := by
  refine ya_ct (by decide +kernel) rfl rfl (Nat.le_of_ble_eq_true rfl) ?_
  unfold f_X12_shape at h
  show ya_E X Y_X12_shape (ya_M X (some (.int rr), G, d) 0 0) 0 [(0, .ref (X.2.1 + 83)), (1, .int v1), (2, .int v2)] [] G d 0 0
  refine ya_aload_n 0 rfl dX12_shape_0 ?_
  refine ya_iload_n 1 rfl dX12_shape_1 ?_
  refine ya_i2l dX12_shape_2 ?_
  obtain ⟨x3, e3, h⟩ := ya_ob h
  refine ya_callVi (S := []) (c_X12_isThing hG e3) m_X12_isThing ⟨rfl, rfl⟩ ml_X12_98 rfl ⟨Nat.le_of_ble_eq_true rfl, Nat.le_of_ble_eq_true rfl⟩ (Nat.le_of_ble_eq_true rfl) (hG.lt0 83 (by decide)) (hG.o0 83 rfl) (by decide) rfl rfl ⟨Nat.le_refl _, Nat.le_refl _⟩ dX12_shape_3 rfl ?_
  refine ya_j0_s h (ya_E X Y_X12_shape (ya_M X (some (.int rr), G, d) 0 0) 21 [] [] G d 0 0) (fun h => ?_) (fun k21 hk21 h => ?_)
  · refine ya_bipush (-2) (by decide) dX12_shape_21 ?_
    cases h
    exact ya_iret rfl rfl rfl rfl rfl (Nat.le_refl _) dX12_shape_23
  · refine ya_ifeq 21 (by decide) dX12_shape_6 (fun c => ?_) (fun c => ?_)
    · replace h := ya_itet h c
      refine ya_sub [] [] rfl ?_
      exact hk21  h
    · replace h := ya_itef h c
      refine ya_iload_n 2 rfl dX12_shape_9 ?_
      refine ya_i2l dX12_shape_10 ?_
      refine ya_lconst 0 rfl dX12_shape_11 ?_
      refine ya_ldc2 3 kc_X12_333 dX12_shape_12 ?_
      obtain ⟨x15, e15, h⟩ := ya_ob h
      refine ya_callSi (S := []) (c_X12_in hG e15) m_X12_in ⟨rfl, rfl⟩ ml_X12_94 rfl ⟨Nat.le_of_ble_eq_true rfl, Nat.le_of_ble_eq_true rfl⟩ (Nat.le_of_ble_eq_true rfl) ⟨Nat.le_refl _, Nat.le_refl _⟩ dX12_shape_15 rfl ?_
      refine ya_ifne 24 (by decide) dX12_shape_18 (fun c => ?_) (fun c => ?_)
      · replace h := ya_itef h c
        refine ya_iconst 0 (by decide) dX12_shape_24 ?_
        refine ya_istore_n [(3, .int 0), (0, .ref (X.2.1 + 83)), (1, .int v1), (2, .int v2)] (by decide) rfl dX12_shape_25 ?_
        refine ya_iconst 0 (by decide) dX12_shape_26 ?_
        refine ya_istore [(4, .int 0), (3, .int 0), (0, .ref (X.2.1 + 83)), (1, .int v1), (2, .int v2)] (by decide) rfl dX12_shape_27 ?_
        refine ya_iconst 0 (by decide) dX12_shape_29 ?_
        refine ya_istore [(5, .int 0), (4, .int 0), (3, .int 0), (0, .ref (X.2.1 + 83)), (1, .int v1), (2, .int v2)] (by decide) rfl dX12_shape_30 ?_
        refine ya_iconst 1 (by decide) dX12_shape_32 ?_
        refine ya_istore [(6, .int 1), (5, .int 0), (4, .int 0), (3, .int 0), (0, .ref (X.2.1 + 83)), (1, .int v1), (2, .int v2)] (by decide) rfl dX12_shape_33 ?_
        refine ya_iconst 1 (by decide) dX12_shape_35 ?_
        refine ya_istore [(7, .int 1), (6, .int 1), (5, .int 0), (4, .int 0), (3, .int 0), (0, .ref (X.2.1 + 83)), (1, .int v1), (2, .int v2)] (by decide) rfl dX12_shape_36 ?_
        refine ya_iconst 1 (by decide) dX12_shape_38 ?_
        refine ya_istore [(8, .int 1), (7, .int 1), (6, .int 1), (5, .int 0), (4, .int 0), (3, .int 0), (0, .ref (X.2.1 + 83)), (1, .int v1), (2, .int v2)] (by decide) rfl dX12_shape_39 ?_
        refine ya_sub [(0, .ref (X.2.1 + 83)), (1, .int v1), (2, .int v2), (3, .int 0), (4, .int 0), (5, .int 0), (6, .int 1), (7, .int 1), (8, .int 1)] [6, 7, 8, 5, 4, 3, 2, 1, 0] rfl ?_
        refine w_X12_shape_L41 hG (fun v3_172 v4_172 v5_172 v7_172 h => ?_) ya_F _ _ _ _ _ _ h
        refine ya_iload_n 0 rfl dX12_shape_172 ?_
        refine ya_ifne 180 (by decide) dX12_shape_173 (fun c => ?_) (fun c => ?_)
        · replace h := ya_itef h c
          refine ya_iload_n 0 rfl dX12_shape_180 ?_
          refine ya_iconst 1 (by decide) dX12_shape_181 ?_
          refine ya_icmp_ne 190 (by decide) dX12_shape_182 (fun c => ?_) (fun c => ?_)
          · replace h := ya_itef h c
            refine ya_iload_n 0 rfl dX12_shape_190 ?_
            refine ya_iconst 2 (by decide) dX12_shape_191 ?_
            refine ya_icmp_ne 200 (by decide) dX12_shape_192 (fun c => ?_) (fun c => ?_)
            · replace h := ya_itef h c
              refine ya_iload 4 rfl dX12_shape_200 ?_
              cases h
              exact ya_iret rfl rfl rfl rfl rfl (Nat.le_refl _) dX12_shape_202
            · replace h := ya_itet h c
              refine ya_iload 3 rfl dX12_shape_195 ?_
              refine ya_goto 202 (by decide) dX12_shape_197 ?_
              cases h
              exact ya_iret rfl rfl rfl rfl rfl (Nat.le_refl _) dX12_shape_202
          · replace h := ya_itet h c
            refine ya_iload 2 rfl dX12_shape_185 ?_
            refine ya_goto 202 (by decide) dX12_shape_187 ?_
            cases h
            exact ya_iret rfl rfl rfl rfl rfl (Nat.le_refl _) dX12_shape_202
        · replace h := ya_itet h c
          refine ya_iload_n 1 rfl dX12_shape_176 ?_
          refine ya_goto 202 (by decide) dX12_shape_177 ?_
          cases h
          exact ya_iret rfl rfl rfl rfl rfl (Nat.le_refl _) dX12_shape_202
      · replace h := ya_itet h c
        refine ya_sub [] [] rfl ?_
        exact hk21  h
set_option maxRecDepth 20000 in
theorem w_X12_dearer_L31 {X : ya_X} {G : ya_G} {v1 : Int32} {v2 : Int32} {d : ya_D} {rr : Int32} (hG : ya_Bk ya_sh ya_ln G 0) : ∀ (n : Nat) (v3 : Int32) (v4 : Int32), f_X12_dearer_L31 v1 v2 d n v3 v4 = some rr → ya_E X Y_X12_dearer (ya_M X (some (.int rr), G, d) 0 0) 31 [(0, .ref (X.2.1 + 83)), (1, .int v1), (2, .int v2), (3, .int v3), (4, .int v4)] [] G d 0 0 := by
  intro n
  induction n with
  | zero => intro v3 v4 h; cases h
  | succ n ih =>
    intro v3 v4 h
    rw [f_X12_dearer_L31] at h
    refine ya_iload 4 rfl dX12_dearer_31 ?_
    refine ya_aload_n 0 rfl dX12_dearer_33 ?_
    refine ya_getR fo_X12_9 (hG.o0 83 rfl) (hG.lt0 83 (by decide)) (hG.l0 82 rfl) dX12_dearer_34 ?_
    refine ya_iconst 0 (by decide) dX12_dearer_37 ?_
    refine ya_iald (hG.s0 84 rfl) (hG.lt0 84 (by decide)) dX12_dearer_38 h (fun x38 h => ?_)
    refine ya_icmp_ge 73 (by decide) dX12_dearer_39 (fun c => ?_) (fun c => ?_)
    · replace h := ya_itet h c
      refine ya_iload_n 3 rfl dX12_dearer_73 ?_
      cases h
      exact ya_iret rfl rfl rfl rfl rfl (Nat.le_refl _) dX12_dearer_74
    · replace h := ya_itef h c
      refine ya_iload_n 3 rfl dX12_dearer_42 ?_
      refine ya_aload_n 0 rfl dX12_dearer_43 ?_
      refine ya_iload_n 1 rfl dX12_dearer_44 ?_
      refine ya_iload 4 rfl dX12_dearer_45 ?_
      obtain ⟨x47, e47, h⟩ := ya_ob h
      refine ya_callVi (S := [.int v3]) (c_X12_priceOf hG e47) m_X12_priceOf ⟨rfl, rfl⟩ ml_X12_263 rfl ⟨Nat.le_of_ble_eq_true rfl, Nat.le_of_ble_eq_true rfl⟩ (Nat.le_of_ble_eq_true rfl) (hG.lt0 83 (by decide)) (hG.o0 83 rfl) (by decide) rfl rfl ⟨Nat.le_refl _, Nat.le_refl _⟩ dX12_dearer_47 rfl ?_
      refine ya_aload_n 0 rfl dX12_dearer_50 ?_
      refine ya_iload_n 2 rfl dX12_dearer_51 ?_
      refine ya_iload 4 rfl dX12_dearer_52 ?_
      obtain ⟨x54, e54, h⟩ := ya_ob h
      refine ya_callVi (S := [.int x47, .int v3]) (c_X12_priceOf hG e54) m_X12_priceOf ⟨rfl, rfl⟩ ml_X12_263 rfl ⟨Nat.le_of_ble_eq_true rfl, Nat.le_of_ble_eq_true rfl⟩ (Nat.le_of_ble_eq_true rfl) (hG.lt0 83 (by decide)) (hG.o0 83 rfl) (by decide) rfl rfl ⟨Nat.le_refl _, Nat.le_refl _⟩ dX12_dearer_54 rfl ?_
      refine ya_j1_s h (fun t0_65 => ya_E X Y_X12_dearer (ya_M X (some (.int rr), G, d) 0 0) 65 [(0, .ref (X.2.1 + 83)), (1, .int v1), (2, .int v2), (4, .int v4)] [.int t0_65, .int v3] G d 0 0) (fun t0_65 h => ?_) (fun k65 hk65 h => ?_)
      · refine ya_iadd dX12_dearer_65 ?_
        refine ya_istore_n [(3, .int (v3 + t0_65)), (0, .ref (X.2.1 + 83)), (1, .int v1), (2, .int v2), (4, .int v4)] (by decide) rfl dX12_dearer_66 ?_
        refine ya_iinc (v4 + 1) rfl 4 rfl [(4, .int (v4 + 1)), (3, .int (v3 + t0_65)), (0, .ref (X.2.1 + 83)), (1, .int v1), (2, .int v2)] (by decide) rfl dX12_dearer_67 ?_
        refine ya_goto 31 (by decide) dX12_dearer_70 ?_
        refine ya_sub [(0, .ref (X.2.1 + 83)), (1, .int v1), (2, .int v2), (3, .int (v3 + t0_65)), (4, .int (v4 + 1))] [2, 3, 4, 1, 0] rfl ?_
        exact ih _ _ h
      · refine ya_icmp_le 64 (by decide) dX12_dearer_57 (fun c => ?_) (fun c => ?_)
        · replace h := ya_itet h c
          refine ya_iconst 0 (by decide) dX12_dearer_64 ?_
          refine ya_sub [(0, .ref (X.2.1 + 83)), (1, .int v1), (2, .int v2), (4, .int v4)] [0, 1, 2, 4] rfl ?_
          exact hk65 _ h
        · replace h := ya_itef h c
          refine ya_iconst 1 (by decide) dX12_dearer_60 ?_
          refine ya_goto 65 (by decide) dX12_dearer_61 ?_
          refine ya_sub [(0, .ref (X.2.1 + 83)), (1, .int v1), (2, .int v2), (4, .int v4)] [0, 1, 2, 4] rfl ?_
          exact hk65 _ h
set_option maxRecDepth 20000 in
theorem c_X12_dearer {X : ya_X} {G : ya_G} {v1 : Int32} {v2 : Int32} {d : ya_D} {rr : Int32} (hG : ya_Bk ya_sh ya_ln G 0) (h : f_X12_dearer v1 v2 d = some rr) : ya_Ct X yX12_dearer Y_X12_dearer [.ref (X.2.1 + 83), .int v1, .int v2] G d (some (.int rr), G, d) := by
  refine ya_ct (by decide +kernel) rfl rfl (Nat.le_of_ble_eq_true rfl) ?_
  unfold f_X12_dearer at h
  show ya_E X Y_X12_dearer (ya_M X (some (.int rr), G, d) 0 0) 0 [(0, .ref (X.2.1 + 83)), (1, .int v1), (2, .int v2)] [] G d 0 0
  refine ya_aload_n 0 rfl dX12_dearer_0 ?_
  refine ya_iload_n 1 rfl dX12_dearer_1 ?_
  refine ya_i2l dX12_dearer_2 ?_
  obtain ⟨x3, e3, h⟩ := ya_ob h
  refine ya_callVi (S := []) (c_X12_isThing hG e3) m_X12_isThing ⟨rfl, rfl⟩ ml_X12_98 rfl ⟨Nat.le_of_ble_eq_true rfl, Nat.le_of_ble_eq_true rfl⟩ (Nat.le_of_ble_eq_true rfl) (hG.lt0 83 (by decide)) (hG.o0 83 rfl) (by decide) rfl rfl ⟨Nat.le_refl _, Nat.le_refl _⟩ dX12_dearer_3 rfl ?_
  refine ya_j0_s h (ya_E X Y_X12_dearer (ya_M X (some (.int rr), G, d) 0 0) 23 [] [] G d 0 0) (fun h => ?_) (fun k23 hk23 h => ?_)
  · refine ya_bipush (-2) (by decide) dX12_dearer_23 ?_
    cases h
    exact ya_iret rfl rfl rfl rfl rfl (Nat.le_refl _) dX12_dearer_25
  · refine ya_ifeq 23 (by decide) dX12_dearer_6 (fun c => ?_) (fun c => ?_)
    · replace h := ya_itet h c
      refine ya_sub [] [] rfl ?_
      exact hk23  h
    · replace h := ya_itef h c
      refine ya_aload_n 0 rfl dX12_dearer_9 ?_
      refine ya_iload_n 2 rfl dX12_dearer_10 ?_
      refine ya_i2l dX12_dearer_11 ?_
      obtain ⟨x12, e12, h⟩ := ya_ob h
      refine ya_callVi (S := []) (c_X12_isThing hG e12) m_X12_isThing ⟨rfl, rfl⟩ ml_X12_98 rfl ⟨Nat.le_of_ble_eq_true rfl, Nat.le_of_ble_eq_true rfl⟩ (Nat.le_of_ble_eq_true rfl) (hG.lt0 83 (by decide)) (hG.o0 83 rfl) (by decide) rfl rfl ⟨Nat.le_refl _, Nat.le_refl _⟩ dX12_dearer_12 rfl ?_
      refine ya_ifeq 23 (by decide) dX12_dearer_15 (fun c => ?_) (fun c => ?_)
      · replace h := ya_itet h c
        refine ya_sub [] [] rfl ?_
        exact hk23  h
      · replace h := ya_itef h c
        refine ya_iload_n 1 rfl dX12_dearer_18 ?_
        refine ya_iload_n 2 rfl dX12_dearer_19 ?_
        refine ya_icmp_ne 26 (by decide) dX12_dearer_20 (fun c => ?_) (fun c => ?_)
        · replace h := ya_itef h c
          refine ya_iconst 0 (by decide) dX12_dearer_26 ?_
          refine ya_istore_n [(3, .int 0), (0, .ref (X.2.1 + 83)), (1, .int v1), (2, .int v2)] (by decide) rfl dX12_dearer_27 ?_
          refine ya_iconst 0 (by decide) dX12_dearer_28 ?_
          refine ya_istore [(4, .int 0), (3, .int 0), (0, .ref (X.2.1 + 83)), (1, .int v1), (2, .int v2)] (by decide) rfl dX12_dearer_29 ?_
          refine ya_sub [(0, .ref (X.2.1 + 83)), (1, .int v1), (2, .int v2), (3, .int 0), (4, .int 0)] [2, 3, 4, 1, 0] rfl ?_
          refine w_X12_dearer_L31 hG  ya_F _ _ h
        · replace h := ya_itet h c
          refine ya_sub [] [] rfl ?_
          exact hk23  h
set_option maxRecDepth 20000 in
theorem c_X12_bestKeeping {X : ya_X} {G : ya_G} {v1 : Int32} {v2 : Int32} {d : ya_D} {rr : (Int32 × ya_D)} (hG : ya_Bk ya_sh ya_ln G 0) (h : f_X12_bestKeeping v1 v2 d = some rr) : ya_Ct X yX12_bestKeeping Y_X12_bestKeeping [.ref (X.2.1 + 83), .int v1, .int v2] G d (some (.int rr.1), G, rr.2) := by
  refine ya_ct (by decide +kernel) rfl rfl (Nat.le_of_ble_eq_true rfl) ?_
  unfold f_X12_bestKeeping at h
  show ya_E X Y_X12_bestKeeping (ya_M X (some (.int rr.1), G, rr.2) 0 0) 0 [(0, .ref (X.2.1 + 83)), (1, .int v1), (2, .int v2)] [] G d 0 0
  refine ya_bipush 6 (by decide) dX12_bestKeeping_0 ?_
  refine ya_aload_n 0 rfl dX12_bestKeeping_2 ?_
  refine ya_iload_n 1 rfl dX12_bestKeeping_3 ?_
  obtain ⟨x4, e4, h⟩ := ya_ob h
  refine ya_callVi (S := [.int 6]) (c_X12_thingOf hG e4) m_X12_thingOf ⟨rfl, rfl⟩ ml_X12_270 rfl ⟨Nat.le_of_ble_eq_true rfl, Nat.le_of_ble_eq_true rfl⟩ (Nat.le_of_ble_eq_true rfl) (hG.lt0 83 (by decide)) (hG.o0 83 rfl) (by decide) rfl rfl ⟨Nat.le_refl _, Nat.le_refl _⟩ dX12_bestKeeping_4 rfl ?_
  refine ya_iadd dX12_bestKeeping_7 ?_
  refine ya_istore_n [(3, .int ((6 : Int32) + x4)), (0, .ref (X.2.1 + 83)), (1, .int v1), (2, .int v2)] (by decide) rfl dX12_bestKeeping_8 ?_
  refine ya_aload_n 1 rfl dX12_bestKeeping_9 ?_
  refine ya_getR fo_X12_9 (hG.o0 83 rfl) (hG.lt0 83 (by decide)) (hG.l0 82 rfl) dX12_bestKeeping_10 ?_
  refine ya_iload_n 0 rfl dX12_bestKeeping_13 ?_
  refine ya_iald (hG.s0 84 rfl) (hG.lt0 84 (by decide)) dX12_bestKeeping_14 h (fun x14 h => ?_)
  refine ya_istore [(4, .int x14), (3, .int ((6 : Int32) + x4)), (0, .ref (X.2.1 + 83)), (1, .int v1), (2, .int v2)] (by decide) rfl dX12_bestKeeping_15 ?_
  refine ya_aload_n 2 rfl dX12_bestKeeping_17 ?_
  refine ya_getR fo_X12_9 (hG.o0 83 rfl) (hG.lt0 83 (by decide)) (hG.l0 82 rfl) dX12_bestKeeping_18 ?_
  refine ya_iload_n 1 rfl dX12_bestKeeping_21 ?_
  refine ya_iload_n 4 rfl dX12_bestKeeping_22 ?_
  refine ya_iast (hG.s0 84 rfl) (hG.lt0 84 (by decide)) dX12_bestKeeping_23 h (fun d23 h => ?_)
  refine ya_aload_n 2 rfl dX12_bestKeeping_24 ?_
  refine ya_iload_n 3 rfl dX12_bestKeeping_25 ?_
  refine ya_iconst (-1) (by decide) dX12_bestKeeping_26 ?_
  obtain ⟨x27, d27, e27, h⟩ := ya_ob2 h
  refine ya_callVi (S := []) (c_X12_bestBut hG e27) m_X12_bestBut ⟨rfl, rfl⟩ ml_X12_350 rfl ⟨Nat.le_of_ble_eq_true rfl, Nat.le_of_ble_eq_true rfl⟩ (Nat.le_of_ble_eq_true rfl) (hG.lt0 83 (by decide)) (hG.o0 83 rfl) (by decide) rfl rfl ⟨Nat.le_refl _, Nat.le_refl _⟩ dX12_bestKeeping_27 rfl ?_
  refine ya_istore [(5, .int x27), (4, .int x14), (3, .int ((6 : Int32) + x4)), (0, .ref (X.2.1 + 83)), (1, .int v1), (2, .int v2)] (by decide) rfl dX12_bestKeeping_30 ?_
  refine ya_aload_n 3 rfl dX12_bestKeeping_32 ?_
  refine ya_getR fo_X12_9 (hG.o0 83 rfl) (hG.lt0 83 (by decide)) (hG.l0 82 rfl) dX12_bestKeeping_33 ?_
  refine ya_iload_n 2 rfl dX12_bestKeeping_36 ?_
  refine ya_iload 1 rfl dX12_bestKeeping_37 ?_
  refine ya_iast (hG.s0 84 rfl) (hG.lt0 84 (by decide)) dX12_bestKeeping_39 h (fun d39 h => ?_)
  refine ya_iload 0 rfl dX12_bestKeeping_40 ?_
  cases h
  exact ya_iret rfl rfl rfl rfl rfl (Nat.le_refl _) dX12_bestKeeping_42
set_option maxRecDepth 20000 in
theorem c_X12_keeping {X : ya_X} {G : ya_G} {v1 : Int32} {v2 : Int32} {d : ya_D} {rr : (Int32 × ya_D)} (hG : ya_Bk ya_sh ya_ln G 0) (h : f_X12_keeping v1 v2 d = some rr) : ya_Ct X yX12_keeping Y_X12_keeping [.ref (X.2.1 + 83), .int v1, .int v2] G d (some (.int rr.1), G, rr.2) := by
  refine ya_ct (by decide +kernel) rfl rfl (Nat.le_of_ble_eq_true rfl) ?_
  unfold f_X12_keeping at h
  show ya_E X Y_X12_keeping (ya_M X (some (.int rr.1), G, rr.2) 0 0) 0 [(0, .ref (X.2.1 + 83)), (1, .int v1), (2, .int v2)] [] G d 0 0
  refine ya_aload_n 0 rfl dX12_keeping_0 ?_
  refine ya_iload_n 1 rfl dX12_keeping_1 ?_
  obtain ⟨x2, e2, h⟩ := ya_ob h
  refine ya_callVi (S := []) (c_X12_isSeller hG e2) m_X12_isSeller ⟨rfl, rfl⟩ ml_X12_315 rfl ⟨Nat.le_of_ble_eq_true rfl, Nat.le_of_ble_eq_true rfl⟩ (Nat.le_of_ble_eq_true rfl) (hG.lt0 83 (by decide)) (hG.o0 83 rfl) (by decide) rfl rfl ⟨Nat.le_refl _, Nat.le_refl _⟩ dX12_keeping_2 rfl ?_
  refine ya_j0_s h (ya_E X Y_X12_keeping (ya_M X (some (.int rr.1), G, rr.2) 0 0) 29 [] [] G d 0 0) (fun h => ?_) (fun k29 hk29 h => ?_)
  · refine ya_bipush (-2) (by decide) dX12_keeping_29 ?_
    cases h
    exact ya_iret rfl rfl rfl rfl rfl (Nat.le_refl _) dX12_keeping_31
  · refine ya_ifeq 29 (by decide) dX12_keeping_5 (fun c => ?_) (fun c => ?_)
    · replace h := ya_itet h c
      refine ya_sub [] [] rfl ?_
      exact hk29  h
    · replace h := ya_itef h c
      refine ya_iload_n 2 rfl dX12_keeping_8 ?_
      refine ya_i2l dX12_keeping_9 ?_
      refine ya_lconst 0 rfl dX12_keeping_10 ?_
      refine ya_ldc2 30 kc_X12_397 dX12_keeping_11 ?_
      obtain ⟨x14, e14, h⟩ := ya_ob h
      refine ya_callSi (S := []) (c_X12_in hG e14) m_X12_in ⟨rfl, rfl⟩ ml_X12_94 rfl ⟨Nat.le_of_ble_eq_true rfl, Nat.le_of_ble_eq_true rfl⟩ (Nat.le_of_ble_eq_true rfl) ⟨Nat.le_refl _, Nat.le_refl _⟩ dX12_keeping_14 rfl ?_
      refine ya_ifeq 29 (by decide) dX12_keeping_17 (fun c => ?_) (fun c => ?_)
      · replace h := ya_itet h c
        refine ya_sub [] [] rfl ?_
        exact hk29  h
      · replace h := ya_itef h c
        refine ya_aload_n 0 rfl dX12_keeping_20 ?_
        refine ya_iload_n 1 rfl dX12_keeping_21 ?_
        refine ya_iload_n 2 rfl dX12_keeping_22 ?_
        obtain ⟨x23, d23, e23, h⟩ := ya_ob2 h
        refine ya_callVi (S := []) (c_X12_bestKeeping hG e23) m_X12_bestKeeping ⟨rfl, rfl⟩ ml_X12_399 rfl ⟨Nat.le_of_ble_eq_true rfl, Nat.le_of_ble_eq_true rfl⟩ (Nat.le_of_ble_eq_true rfl) (hG.lt0 83 (by decide)) (hG.o0 83 rfl) (by decide) rfl rfl ⟨Nat.le_refl _, Nat.le_refl _⟩ dX12_keeping_23 rfl ?_
        refine ya_goto 31 (by decide) dX12_keeping_26 ?_
        cases h
        exact ya_iret rfl rfl rfl rfl rfl (Nat.le_refl _) dX12_keeping_31
set_option maxRecDepth 20000 in
theorem w_X12_enough_L21 {X : ya_X} {G : ya_G} {v1 : Int32} {v2 : Int32} {rr : (Int32 × ya_D)} (hG : ya_Bk ya_sh ya_ln G 0) : ∀ (n : Nat) (v3 : Int32) (d : ya_D), f_X12_enough_L21 v1 v2 n v3 d = some rr → ya_E X Y_X12_enough (ya_M X (some (.int rr.1), G, rr.2) 0 0) 21 [(0, .ref (X.2.1 + 83)), (1, .int v1), (2, .int v2), (3, .int v3)] [] G d 0 0 := by
  intro n
  induction n with
  | zero => intro v3 d h; cases h
  | succ n ih =>
    intro v3 d h
    rw [f_X12_enough_L21] at h
    refine ya_aload_n 0 rfl dX12_enough_21 ?_
    refine ya_iload_n 1 rfl dX12_enough_22 ?_
    refine ya_iload_n 3 rfl dX12_enough_23 ?_
    obtain ⟨x24, d24, e24, h⟩ := ya_ob2 h
    refine ya_callVi (S := []) (c_X12_bestKeeping hG e24) m_X12_bestKeeping ⟨rfl, rfl⟩ ml_X12_399 rfl ⟨Nat.le_of_ble_eq_true rfl, Nat.le_of_ble_eq_true rfl⟩ (Nat.le_of_ble_eq_true rfl) (hG.lt0 83 (by decide)) (hG.o0 83 rfl) (by decide) rfl rfl ⟨Nat.le_refl _, Nat.le_refl _⟩ dX12_enough_24 rfl ?_
    refine ya_iload_n 2 rfl dX12_enough_27 ?_
    refine ya_icmp_ge 37 (by decide) dX12_enough_28 (fun c => ?_) (fun c => ?_)
    · replace h := ya_itet h c
      refine ya_iload_n 3 rfl dX12_enough_37 ?_
      cases h
      exact ya_iret rfl rfl rfl rfl rfl (Nat.le_refl _) dX12_enough_38
    · replace h := ya_itef h c
      refine ya_iinc (v3 + 1) rfl 3 rfl [(3, .int (v3 + 1)), (0, .ref (X.2.1 + 83)), (1, .int v1), (2, .int v2)] (by decide) rfl dX12_enough_31 ?_
      refine ya_goto 21 (by decide) dX12_enough_34 ?_
      refine ya_sub [(0, .ref (X.2.1 + 83)), (1, .int v1), (2, .int v2), (3, .int (v3 + 1))] [1, 2, 3, 0] rfl ?_
      exact ih _ _ h
set_option maxRecDepth 20000 in
theorem c_X12_enough {X : ya_X} {G : ya_G} {v1 : Int32} {d : ya_D} {rr : (Int32 × ya_D)} (hG : ya_Bk ya_sh ya_ln G 0) (h : f_X12_enough v1 d = some rr) : ya_Ct X yX12_enough Y_X12_enough [.ref (X.2.1 + 83), .int v1] G d (some (.int rr.1), G, rr.2) := by
  refine ya_ct (by decide +kernel) rfl rfl (Nat.le_of_ble_eq_true rfl) ?_
  unfold f_X12_enough at h
  show ya_E X Y_X12_enough (ya_M X (some (.int rr.1), G, rr.2) 0 0) 0 [(0, .ref (X.2.1 + 83)), (1, .int v1)] [] G d 0 0
  refine ya_aload_n 0 rfl dX12_enough_0 ?_
  refine ya_iload_n 1 rfl dX12_enough_1 ?_
  obtain ⟨x2, e2, h⟩ := ya_ob h
  refine ya_callVi (S := []) (c_X12_isSeller hG e2) m_X12_isSeller ⟨rfl, rfl⟩ ml_X12_315 rfl ⟨Nat.le_of_ble_eq_true rfl, Nat.le_of_ble_eq_true rfl⟩ (Nat.le_of_ble_eq_true rfl) (hG.lt0 83 (by decide)) (hG.o0 83 rfl) (by decide) rfl rfl ⟨Nat.le_refl _, Nat.le_refl _⟩ dX12_enough_2 rfl ?_
  refine ya_ifne 11 (by decide) dX12_enough_5 (fun c => ?_) (fun c => ?_)
  · replace h := ya_itef h c
    refine ya_aload_n 0 rfl dX12_enough_11 ?_
    refine ya_iload_n 1 rfl dX12_enough_12 ?_
    refine ya_bipush 30 (by decide) dX12_enough_13 ?_
    obtain ⟨x15, d15, e15, h⟩ := ya_ob2 h
    refine ya_callVi (S := []) (c_X12_bestKeeping hG e15) m_X12_bestKeeping ⟨rfl, rfl⟩ ml_X12_399 rfl ⟨Nat.le_of_ble_eq_true rfl, Nat.le_of_ble_eq_true rfl⟩ (Nat.le_of_ble_eq_true rfl) (hG.lt0 83 (by decide)) (hG.o0 83 rfl) (by decide) rfl rfl ⟨Nat.le_refl _, Nat.le_refl _⟩ dX12_enough_15 rfl ?_
    refine ya_istore_n [(2, .int x15), (0, .ref (X.2.1 + 83)), (1, .int v1)] (by decide) rfl dX12_enough_18 ?_
    refine ya_iconst 0 (by decide) dX12_enough_19 ?_
    refine ya_istore_n [(3, .int 0), (2, .int x15), (0, .ref (X.2.1 + 83)), (1, .int v1)] (by decide) rfl dX12_enough_20 ?_
    refine ya_sub [(0, .ref (X.2.1 + 83)), (1, .int v1), (2, .int x15), (3, .int 0)] [2, 3, 1, 0] rfl ?_
    refine w_X12_enough_L21 hG  ya_F _ _ h
  · replace h := ya_itet h c
    refine ya_bipush (-2) (by decide) dX12_enough_8 ?_
    cases h
    exact ya_iret rfl rfl rfl rfl rfl (Nat.le_refl _) dX12_enough_10
set_option maxRecDepth 20000 in
theorem w_X12_clears_L54 {X : ya_X} {G : ya_G} {v1 : Int32} {v2 : Int32} {v3 : Int32} {v4 : Int32} {v5 : Int32} {rr : (Int32 × ya_D)} {e98 : Int32 → ya_D → Option (Int32 × ya_D)} (hG : ya_Bk ya_sh ya_ln G 0) (he98 : ∀ (v6 : Int32) (d : ya_D), e98 v6 d = some rr → ya_E X Y_X12_clears (ya_M X (some (.int rr.1), G, rr.2) 0 0) 98 [(0, .ref (X.2.1 + 83)), (4, .int v4), (5, .int v5), (6, .int v6)] [] G d 0 0) : ∀ (n : Nat) (v6 : Int32) (v7 : Int32) (d : ya_D), f_X12_clears_L54 v1 v2 v3 v4 v5 e98 n v6 v7 d = some rr → ya_E X Y_X12_clears (ya_M X (some (.int rr.1), G, rr.2) 0 0) 54 [(0, .ref (X.2.1 + 83)), (1, .int v1), (2, .int v2), (3, .int v3), (4, .int v4), (5, .int v5), (6, .int v6), (7, .int v7)] [] G d 0 0 := by
  intro n
  induction n with
  | zero => intro v6 v7 d h; cases h
  | succ n ih =>
    intro v6 v7 d h
    rw [f_X12_clears_L54] at h
    refine ya_iload 7 rfl dX12_clears_54 ?_
    refine ya_iflt 98 (by decide) dX12_clears_56 (fun c => ?_) (fun c => ?_)
    · replace h := ya_itet h c
      refine ya_sub [(0, .ref (X.2.1 + 83)), (4, .int v4), (5, .int v5), (6, .int v6)] [0, 4, 5, 6] rfl ?_
      exact he98 _ _ h
    · replace h := ya_itef h c
      refine ya_iload 6 rfl dX12_clears_59 ?_
      refine ya_iconst (-1) (by decide) dX12_clears_61 ?_
      refine ya_icmp_ne 98 (by decide) dX12_clears_62 (fun c => ?_) (fun c => ?_)
      · replace h := ya_itef h c
        refine ya_sub [(0, .ref (X.2.1 + 83)), (4, .int v4), (5, .int v5), (6, .int v6)] [0, 4, 5, 6] rfl ?_
        exact he98 _ _ h
      · replace h := ya_itet h c
        refine ya_aload_n 0 rfl dX12_clears_65 ?_
        refine ya_getR fo_X12_9 (hG.o0 83 rfl) (hG.lt0 83 (by decide)) (hG.l0 82 rfl) dX12_clears_66 ?_
        refine ya_iload 4 rfl dX12_clears_69 ?_
        refine ya_iload 7 rfl dX12_clears_71 ?_
        refine ya_iast (hG.s0 84 rfl) (hG.lt0 84 (by decide)) dX12_clears_73 h (fun d73 h => ?_)
        refine ya_aload_n 0 rfl dX12_clears_74 ?_
        refine ya_iload_n 1 rfl dX12_clears_75 ?_
        refine ya_iload_n 2 rfl dX12_clears_76 ?_
        obtain ⟨x77, e77, h⟩ := ya_ob h
        refine ya_callVi (S := []) (c_X12_askedOf hG e77) m_X12_askedOf ⟨rfl, rfl⟩ ml_X12_288 rfl ⟨Nat.le_of_ble_eq_true rfl, Nat.le_of_ble_eq_true rfl⟩ (Nat.le_of_ble_eq_true rfl) (hG.lt0 83 (by decide)) (hG.o0 83 rfl) (by decide) rfl rfl ⟨Nat.le_refl _, Nat.le_refl _⟩ dX12_clears_77 rfl ?_
        refine ya_iload_n 3 rfl dX12_clears_80 ?_
        refine ya_j1_s h (fun t0_90 => ya_E X Y_X12_clears (ya_M X (some (.int rr.1), G, rr.2) 0 0) 90 [(0, .ref (X.2.1 + 83)), (1, .int v1), (2, .int v2), (3, .int v3), (4, .int v4), (5, .int v5), (7, .int v7)] [.int t0_90] G d73 0 0) (fun t0_90 h => ?_) (fun k90 hk90 h => ?_)
        · refine ya_istore [(6, .int t0_90), (0, .ref (X.2.1 + 83)), (1, .int v1), (2, .int v2), (3, .int v3), (4, .int v4), (5, .int v5), (7, .int v7)] (by decide) rfl dX12_clears_90 ?_
          refine ya_iinc (v7 + (-1)) (congrArg (fun z => v7 + z) (by decide : Int32.ofInt (-1) = (-1))) 7 rfl [(7, .int (v7 + (-1))), (6, .int t0_90), (0, .ref (X.2.1 + 83)), (1, .int v1), (2, .int v2), (3, .int v3), (4, .int v4), (5, .int v5)] (by decide) rfl dX12_clears_92 ?_
          refine ya_goto 54 (by decide) dX12_clears_95 ?_
          refine ya_sub [(0, .ref (X.2.1 + 83)), (1, .int v1), (2, .int v2), (3, .int v3), (4, .int v4), (5, .int v5), (6, .int t0_90), (7, .int (v7 + (-1)))] [2, 3, 4, 5, 6, 7, 1, 0] rfl ?_
          exact ih _ _ _ h
        · refine ya_icmp_lt 89 (by decide) dX12_clears_81 (fun c => ?_) (fun c => ?_)
          · replace h := ya_itet h c
            refine ya_iconst (-1) (by decide) dX12_clears_89 ?_
            refine ya_sub [(0, .ref (X.2.1 + 83)), (1, .int v1), (2, .int v2), (3, .int v3), (4, .int v4), (5, .int v5), (7, .int v7)] [0, 1, 2, 3, 4, 5, 7] rfl ?_
            exact hk90 _ h
          · replace h := ya_itef h c
            refine ya_iload 7 rfl dX12_clears_84 ?_
            refine ya_goto 90 (by decide) dX12_clears_86 ?_
            refine ya_sub [(0, .ref (X.2.1 + 83)), (1, .int v1), (2, .int v2), (3, .int v3), (4, .int v4), (5, .int v5), (7, .int v7)] [0, 1, 2, 3, 4, 5, 7] rfl ?_
            exact hk90 _ h
set_option maxRecDepth 20000 in
theorem c_X12_clears {X : ya_X} {G : ya_G} {v1 : Int32} {v2 : Int32} {d : ya_D} {rr : (Int32 × ya_D)} (hG : ya_Bk ya_sh ya_ln G 0) (h : f_X12_clears v1 v2 d = some rr) : ya_Ct X yX12_clears Y_X12_clears [.ref (X.2.1 + 83), .int v1, .int v2] G d (some (.int rr.1), G, rr.2) := by
  refine ya_ct (by decide +kernel) rfl rfl (Nat.le_of_ble_eq_true rfl) ?_
  unfold f_X12_clears at h
  show ya_E X Y_X12_clears (ya_M X (some (.int rr.1), G, rr.2) 0 0) 0 [(0, .ref (X.2.1 + 83)), (1, .int v1), (2, .int v2)] [] G d 0 0
  refine ya_aload_n 0 rfl dX12_clears_0 ?_
  refine ya_iload_n 1 rfl dX12_clears_1 ?_
  refine ya_iload_n 2 rfl dX12_clears_2 ?_
  obtain ⟨x3, e3, h⟩ := ya_ob h
  refine ya_callVi (S := []) (c_X12_areSo hG e3) m_X12_areSo ⟨rfl, rfl⟩ ml_X12_307 rfl ⟨Nat.le_of_ble_eq_true rfl, Nat.le_of_ble_eq_true rfl⟩ (Nat.le_of_ble_eq_true rfl) (hG.lt0 83 (by decide)) (hG.o0 83 rfl) (by decide) rfl rfl ⟨Nat.le_refl _, Nat.le_refl _⟩ dX12_clears_3 rfl ?_
  refine ya_ifne 12 (by decide) dX12_clears_6 (fun c => ?_) (fun c => ?_)
  · replace h := ya_itef h c
    refine ya_aload_n 0 rfl dX12_clears_12 ?_
    refine ya_lconst 1 rfl dX12_clears_13 ?_
    obtain ⟨d14, e14, h⟩ := ya_ob h
    refine ya_callVv (S := []) (c_X12_runs hG e14) m_X12_runs ⟨rfl, rfl⟩ ml_X12_311 rfl ⟨Nat.le_of_ble_eq_true rfl, Nat.le_of_ble_eq_true rfl⟩ (Nat.le_of_ble_eq_true rfl) (hG.lt0 83 (by decide)) (hG.o0 83 rfl) (by decide) rfl rfl ⟨Nat.le_refl _, Nat.le_refl _⟩ dX12_clears_14 rfl ?_
    refine ya_aload_n 0 rfl dX12_clears_17 ?_
    refine ya_getR fo_X12_37 (hG.o0 83 rfl) (hG.lt0 83 (by decide)) (hG.l0 89 rfl) dX12_clears_18 ?_
    refine ya_iload_n 1 rfl dX12_clears_21 ?_
    refine ya_iload_n 2 rfl dX12_clears_22 ?_
    obtain ⟨x23, e23, h⟩ := ya_ob h
    refine ya_callSi (S := [.ref (X.2.1 + 91)]) (c_X12_at hG e23) m_X12_at ⟨rfl, rfl⟩ ml_X12_105 rfl ⟨Nat.le_of_ble_eq_true rfl, Nat.le_of_ble_eq_true rfl⟩ (Nat.le_of_ble_eq_true rfl) ⟨Nat.le_refl _, Nat.le_refl _⟩ dX12_clears_23 rfl ?_
    refine ya_iald (hG.s0 91 rfl) (hG.lt0 91 (by decide)) dX12_clears_26 h (fun x26 h => ?_)
    refine ya_istore_n [(3, .int x26), (0, .ref (X.2.1 + 83)), (1, .int v1), (2, .int v2)] (by decide) rfl dX12_clears_27 ?_
    refine ya_bipush 11 (by decide) dX12_clears_28 ?_
    refine ya_iload_n 2 rfl dX12_clears_30 ?_
    refine ya_iload_n 3 rfl dX12_clears_31 ?_
    obtain ⟨x32, e32, h⟩ := ya_ob h
    refine ya_callSi (S := [.int 11]) (c_X12_at hG e32) m_X12_at ⟨rfl, rfl⟩ ml_X12_105 rfl ⟨Nat.le_of_ble_eq_true rfl, Nat.le_of_ble_eq_true rfl⟩ (Nat.le_of_ble_eq_true rfl) ⟨Nat.le_refl _, Nat.le_refl _⟩ dX12_clears_32 rfl ?_
    refine ya_iadd dX12_clears_35 ?_
    refine ya_istore [(4, .int ((11 : Int32) + x32)), (3, .int x26), (0, .ref (X.2.1 + 83)), (1, .int v1), (2, .int v2)] (by decide) rfl dX12_clears_36 ?_
    refine ya_aload_n 2 rfl dX12_clears_38 ?_
    refine ya_getR fo_X12_9 (hG.o0 83 rfl) (hG.lt0 83 (by decide)) (hG.l0 82 rfl) dX12_clears_39 ?_
    refine ya_iload 0 rfl dX12_clears_42 ?_
    refine ya_iald (hG.s0 84 rfl) (hG.lt0 84 (by decide)) dX12_clears_44 h (fun x44 h => ?_)
    refine ya_istore [(5, .int x44), (4, .int ((11 : Int32) + x32)), (3, .int x26), (0, .ref (X.2.1 + 83)), (1, .int v1), (2, .int v2)] (by decide) rfl dX12_clears_45 ?_
    refine ya_iconst (-1) (by decide) dX12_clears_47 ?_
    refine ya_istore [(6, .int (-1)), (5, .int x44), (4, .int ((11 : Int32) + x32)), (3, .int x26), (0, .ref (X.2.1 + 83)), (1, .int v1), (2, .int v2)] (by decide) rfl dX12_clears_48 ?_
    refine ya_bipush 99 (by decide) dX12_clears_50 ?_
    refine ya_istore [(7, .int 99), (6, .int (-1)), (5, .int x44), (4, .int ((11 : Int32) + x32)), (3, .int x26), (0, .ref (X.2.1 + 83)), (1, .int v1), (2, .int v2)] (by decide) rfl dX12_clears_52 ?_
    refine ya_sub [(0, .ref (X.2.1 + 83)), (1, .int v1), (2, .int v2), (3, .int x26), (4, .int ((11 : Int32) + x32)), (5, .int x44), (6, .int (-1)), (7, .int 99)] [5, 6, 7, 4, 3, 2, 1, 0] rfl ?_
    refine w_X12_clears_L54 hG (fun v6_98 d_98 h => ?_) ya_F _ _ _ h
    refine ya_aload_n 0 rfl dX12_clears_98 ?_
    refine ya_getR fo_X12_9 (hG.o0 83 rfl) (hG.lt0 83 (by decide)) (hG.l0 82 rfl) dX12_clears_99 ?_
    refine ya_iload 1 rfl dX12_clears_102 ?_
    refine ya_iload 2 rfl dX12_clears_104 ?_
    refine ya_iast (hG.s0 84 rfl) (hG.lt0 84 (by decide)) dX12_clears_106 h (fun d106 h => ?_)
    refine ya_iload 3 rfl dX12_clears_107 ?_
    cases h
    exact ya_iret rfl rfl rfl rfl rfl (Nat.le_refl _) dX12_clears_109
  · replace h := ya_itet h c
    refine ya_bipush (-2) (by decide) dX12_clears_9 ?_
    cases h
    exact ya_iret rfl rfl rfl rfl rfl (Nat.le_refl _) dX12_clears_11
set_option maxRecDepth 20000 in
theorem w_X12_poor_L59 {X : ya_X} {G : ya_G} {v1 : Int32} {v2 : Int32} {v3 : Int32} {v4 : Int32} {rr : (Int32 × ya_D)} {e109 : Int32 → ya_D → Option (Int32 × ya_D)} (hG : ya_Bk ya_sh ya_ln G 0) (he109 : ∀ (v5 : Int32) (d : ya_D), e109 v5 d = some rr → ya_E X Y_X12_poor (ya_M X (some (.int rr.1), G, rr.2) 0 0) 109 [(0, .ref (X.2.1 + 83)), (2, .int v2), (4, .int v4), (5, .int v5)] [] G d 0 0) : ∀ (n : Nat) (v5 : Int32) (v6 : Int32) (d : ya_D), f_X12_poor_L59 v1 v2 v3 v4 e109 n v5 v6 d = some rr → ya_E X Y_X12_poor (ya_M X (some (.int rr.1), G, rr.2) 0 0) 59 [(0, .ref (X.2.1 + 83)), (1, .int v1), (2, .int v2), (3, .int v3), (4, .int v4), (5, .int v5), (6, .int v6)] [] G d 0 0 := by
  intro n
  induction n with
  | zero => intro v5 v6 d h; cases h
  | succ n ih =>
    intro v5 v6 d h
    rw [f_X12_poor_L59] at h
    refine ya_iload 6 rfl dX12_poor_59 ?_
    refine ya_bipush 99 (by decide) dX12_poor_61 ?_
    refine ya_icmp_gt 109 (by decide) dX12_poor_63 (fun c => ?_) (fun c => ?_)
    · replace h := ya_itet h c
      refine ya_sub [(0, .ref (X.2.1 + 83)), (2, .int v2), (4, .int v4), (5, .int v5)] [0, 2, 4, 5] rfl ?_
      exact he109 _ _ h
    · replace h := ya_itef h c
      refine ya_iload 5 rfl dX12_poor_66 ?_
      refine ya_iconst (-1) (by decide) dX12_poor_68 ?_
      refine ya_icmp_ne 109 (by decide) dX12_poor_69 (fun c => ?_) (fun c => ?_)
      · replace h := ya_itef h c
        refine ya_sub [(0, .ref (X.2.1 + 83)), (2, .int v2), (4, .int v4), (5, .int v5)] [0, 2, 4, 5] rfl ?_
        exact he109 _ _ h
      · replace h := ya_itet h c
        refine ya_aload_n 0 rfl dX12_poor_72 ?_
        refine ya_getR fo_X12_9 (hG.o0 83 rfl) (hG.lt0 83 (by decide)) (hG.l0 82 rfl) dX12_poor_73 ?_
        refine ya_iload_n 2 rfl dX12_poor_76 ?_
        refine ya_iload 6 rfl dX12_poor_77 ?_
        refine ya_iast (hG.s0 84 rfl) (hG.lt0 84 (by decide)) dX12_poor_79 h (fun d79 h => ?_)
        refine ya_aload_n 0 rfl dX12_poor_80 ?_
        refine ya_lconst 1 rfl dX12_poor_81 ?_
        obtain ⟨d82, e82, h⟩ := ya_ob h
        refine ya_callVv (S := []) (c_X12_runs hG e82) m_X12_runs ⟨rfl, rfl⟩ ml_X12_311 rfl ⟨Nat.le_of_ble_eq_true rfl, Nat.le_of_ble_eq_true rfl⟩ (Nat.le_of_ble_eq_true rfl) (hG.lt0 83 (by decide)) (hG.o0 83 rfl) (by decide) rfl rfl ⟨Nat.le_refl _, Nat.le_refl _⟩ dX12_poor_82 rfl ?_
        refine ya_aload_n 0 rfl dX12_poor_85 ?_
        refine ya_getR fo_X12_61 (hG.o0 83 rfl) (hG.lt0 83 (by decide)) (hG.l0 97 rfl) dX12_poor_86 ?_
        refine ya_iload_n 1 rfl dX12_poor_89 ?_
        refine ya_iald (hG.s0 99 rfl) (hG.lt0 99 (by decide)) dX12_poor_90 h (fun x90 h => ?_)
        refine ya_iload_n 3 rfl dX12_poor_91 ?_
        refine ya_j1_s h (fun t0_101 => ya_E X Y_X12_poor (ya_M X (some (.int rr.1), G, rr.2) 0 0) 101 [(0, .ref (X.2.1 + 83)), (1, .int v1), (2, .int v2), (3, .int v3), (4, .int v4), (6, .int v6)] [.int t0_101] G d82 0 0) (fun t0_101 h => ?_) (fun k101 hk101 h => ?_)
        · refine ya_istore [(5, .int t0_101), (0, .ref (X.2.1 + 83)), (1, .int v1), (2, .int v2), (3, .int v3), (4, .int v4), (6, .int v6)] (by decide) rfl dX12_poor_101 ?_
          refine ya_iinc (v6 + 1) rfl 6 rfl [(6, .int (v6 + 1)), (5, .int t0_101), (0, .ref (X.2.1 + 83)), (1, .int v1), (2, .int v2), (3, .int v3), (4, .int v4)] (by decide) rfl dX12_poor_103 ?_
          refine ya_goto 59 (by decide) dX12_poor_106 ?_
          refine ya_sub [(0, .ref (X.2.1 + 83)), (1, .int v1), (2, .int v2), (3, .int v3), (4, .int v4), (5, .int t0_101), (6, .int (v6 + 1))] [2, 3, 4, 5, 6, 1, 0] rfl ?_
          exact ih _ _ _ h
        · refine ya_icmp_ne 100 (by decide) dX12_poor_92 (fun c => ?_) (fun c => ?_)
          · replace h := ya_itef h c
            refine ya_iconst (-1) (by decide) dX12_poor_100 ?_
            refine ya_sub [(0, .ref (X.2.1 + 83)), (1, .int v1), (2, .int v2), (3, .int v3), (4, .int v4), (6, .int v6)] [0, 1, 2, 3, 4, 6] rfl ?_
            exact hk101 _ h
          · replace h := ya_itet h c
            refine ya_iload 6 rfl dX12_poor_95 ?_
            refine ya_goto 101 (by decide) dX12_poor_97 ?_
            refine ya_sub [(0, .ref (X.2.1 + 83)), (1, .int v1), (2, .int v2), (3, .int v3), (4, .int v4), (6, .int v6)] [0, 1, 2, 3, 4, 6] rfl ?_
            exact hk101 _ h
set_option maxRecDepth 20000 in
theorem c_X12_poor {X : ya_X} {G : ya_G} {v1 : Int32} {d : ya_D} {rr : (Int32 × ya_D)} (hG : ya_Bk ya_sh ya_ln G 0) (h : f_X12_poor v1 d = some rr) : ya_Ct X yX12_poor Y_X12_poor [.ref (X.2.1 + 83), .int v1] G d (some (.int rr.1), G, rr.2) := by
  refine ya_ct (by decide +kernel) rfl rfl (Nat.le_of_ble_eq_true rfl) ?_
  unfold f_X12_poor at h
  show ya_E X Y_X12_poor (ya_M X (some (.int rr.1), G, rr.2) 0 0) 0 [(0, .ref (X.2.1 + 83)), (1, .int v1)] [] G d 0 0
  refine ya_aload_n 0 rfl dX12_poor_0 ?_
  refine ya_iload_n 1 rfl dX12_poor_1 ?_
  obtain ⟨x2, e2, h⟩ := ya_ob h
  refine ya_callVi (S := []) (c_X12_isBuyer hG e2) m_X12_isBuyer ⟨rfl, rfl⟩ ml_X12_327 rfl ⟨Nat.le_of_ble_eq_true rfl, Nat.le_of_ble_eq_true rfl⟩ (Nat.le_of_ble_eq_true rfl) (hG.lt0 83 (by decide)) (hG.o0 83 rfl) (by decide) rfl rfl ⟨Nat.le_refl _, Nat.le_refl _⟩ dX12_poor_2 rfl ?_
  refine ya_ifne 11 (by decide) dX12_poor_5 (fun c => ?_) (fun c => ?_)
  · replace h := ya_itef h c
    refine ya_sipush 426 (by decide) dX12_poor_11 ?_
    refine ya_bipush 6 (by decide) dX12_poor_14 ?_
    refine ya_iload_n 1 rfl dX12_poor_16 ?_
    refine ya_imul dX12_poor_17 ?_
    refine ya_iadd dX12_poor_18 ?_
    refine ya_iconst 2 (by decide) dX12_poor_19 ?_
    refine ya_iadd dX12_poor_20 ?_
    refine ya_istore_n [(2, .int (((426 : Int32) + ((6 : Int32) * v1)) + 2)), (0, .ref (X.2.1 + 83)), (1, .int v1)] (by decide) rfl dX12_poor_21 ?_
    refine ya_aload_n 1 rfl dX12_poor_22 ?_
    refine ya_iload_n 2 rfl dX12_poor_23 ?_
    refine ya_iconst 1 (by decide) dX12_poor_24 ?_
    obtain ⟨x25, e25, h⟩ := ya_ob h
    refine ya_callVi (S := []) (c_X12_of hG e25) m_X12_of ⟨rfl, rfl⟩ ml_X12_260 rfl ⟨Nat.le_of_ble_eq_true rfl, Nat.le_of_ble_eq_true rfl⟩ (Nat.le_of_ble_eq_true rfl) (hG.lt0 83 (by decide)) (hG.o0 83 rfl) (by decide) rfl rfl ⟨Nat.le_refl _, Nat.le_refl _⟩ dX12_poor_25 rfl ?_
    refine ya_aload_n 1 rfl dX12_poor_28 ?_
    refine ya_iload_n 2 rfl dX12_poor_29 ?_
    refine ya_iconst 4 (by decide) dX12_poor_30 ?_
    obtain ⟨x31, e31, h⟩ := ya_ob h
    refine ya_callVi (S := [.int x25]) (c_X12_of hG e31) m_X12_of ⟨rfl, rfl⟩ ml_X12_260 rfl ⟨Nat.le_of_ble_eq_true rfl, Nat.le_of_ble_eq_true rfl⟩ (Nat.le_of_ble_eq_true rfl) (hG.lt0 83 (by decide)) (hG.o0 83 rfl) (by decide) rfl rfl ⟨Nat.le_refl _, Nat.le_refl _⟩ dX12_poor_31 rfl ?_
    refine ya_aload_n 1 rfl dX12_poor_34 ?_
    refine ya_iload_n 2 rfl dX12_poor_35 ?_
    refine ya_iconst 3 (by decide) dX12_poor_36 ?_
    obtain ⟨x37, e37, h⟩ := ya_ob h
    refine ya_callVi (S := [.int x31, .int x25]) (c_X12_of hG e37) m_X12_of ⟨rfl, rfl⟩ ml_X12_260 rfl ⟨Nat.le_of_ble_eq_true rfl, Nat.le_of_ble_eq_true rfl⟩ (Nat.le_of_ble_eq_true rfl) (hG.lt0 83 (by decide)) (hG.o0 83 rfl) (by decide) rfl rfl ⟨Nat.le_refl _, Nat.le_refl _⟩ dX12_poor_37 rfl ?_
    refine ya_isub dX12_poor_40 ?_
    refine ya_iconst 1 (by decide) dX12_poor_41 ?_
    refine ya_iadd dX12_poor_42 ?_
    refine ya_imul dX12_poor_43 ?_
    refine ya_istore_n [(3, .int (x25 * ((x31 - x37) + 1))), (2, .int (((426 : Int32) + ((6 : Int32) * v1)) + 2)), (0, .ref (X.2.1 + 83)), (1, .int v1)] (by decide) rfl dX12_poor_44 ?_
    refine ya_aload_n 2 rfl dX12_poor_45 ?_
    refine ya_getR fo_X12_9 (hG.o0 83 rfl) (hG.lt0 83 (by decide)) (hG.l0 82 rfl) dX12_poor_46 ?_
    refine ya_iload_n 1 rfl dX12_poor_49 ?_
    refine ya_iald (hG.s0 84 rfl) (hG.lt0 84 (by decide)) dX12_poor_50 h (fun x50 h => ?_)
    refine ya_istore [(4, .int x50), (3, .int (x25 * ((x31 - x37) + 1))), (2, .int (((426 : Int32) + ((6 : Int32) * v1)) + 2)), (0, .ref (X.2.1 + 83)), (1, .int v1)] (by decide) rfl dX12_poor_51 ?_
    refine ya_iconst (-1) (by decide) dX12_poor_53 ?_
    refine ya_istore [(5, .int (-1)), (4, .int x50), (3, .int (x25 * ((x31 - x37) + 1))), (2, .int (((426 : Int32) + ((6 : Int32) * v1)) + 2)), (0, .ref (X.2.1 + 83)), (1, .int v1)] (by decide) rfl dX12_poor_54 ?_
    refine ya_iconst 0 (by decide) dX12_poor_56 ?_
    refine ya_istore [(6, .int 0), (5, .int (-1)), (4, .int x50), (3, .int (x25 * ((x31 - x37) + 1))), (2, .int (((426 : Int32) + ((6 : Int32) * v1)) + 2)), (0, .ref (X.2.1 + 83)), (1, .int v1)] (by decide) rfl dX12_poor_57 ?_
    refine ya_sub [(0, .ref (X.2.1 + 83)), (1, .int v1), (2, .int (((426 : Int32) + ((6 : Int32) * v1)) + 2)), (3, .int (x25 * ((x31 - x37) + 1))), (4, .int x50), (5, .int (-1)), (6, .int 0)] [5, 6, 4, 3, 2, 1, 0] rfl ?_
    refine w_X12_poor_L59 hG (fun v5_109 d_109 h => ?_) ya_F _ _ _ h
    refine ya_aload_n 0 rfl dX12_poor_109 ?_
    refine ya_getR fo_X12_9 (hG.o0 83 rfl) (hG.lt0 83 (by decide)) (hG.l0 82 rfl) dX12_poor_110 ?_
    refine ya_iload_n 1 rfl dX12_poor_113 ?_
    refine ya_iload 2 rfl dX12_poor_114 ?_
    refine ya_iast (hG.s0 84 rfl) (hG.lt0 84 (by decide)) dX12_poor_116 h (fun d116 h => ?_)
    refine ya_iload 3 rfl dX12_poor_117 ?_
    cases h
    exact ya_iret rfl rfl rfl rfl rfl (Nat.le_refl _) dX12_poor_119
  · replace h := ya_itet h c
    refine ya_bipush (-2) (by decide) dX12_poor_8 ?_
    cases h
    exact ya_iret rfl rfl rfl rfl rfl (Nat.le_refl _) dX12_poor_10
set_option maxRecDepth 20000 in
theorem w_X12_villageOn_L5 {X : ya_X} {G : ya_G} {v1 : Int32} {v2 : Int32} {d : ya_D} {rr : Int32} (hG : ya_Bk ya_sh ya_ln G 0) : ∀ (n : Nat) (v3 : Int32) (v4 : Int32), f_X12_villageOn_L5 v1 v2 d n v3 v4 = some rr → ya_E X Y_X12_villageOn (ya_M X (some (.int rr), G, d) 0 0) 5 [(0, .ref (X.2.1 + 83)), (1, .int v1), (2, .int v2), (3, .int v3), (4, .int v4)] [] G d 0 0 := by
  intro n
  induction n with
  | zero => intro v3 v4 h; cases h
  | succ n ih =>
    intro v3 v4 h
    rw [f_X12_villageOn_L5] at h
    refine ya_iload 4 rfl dX12_villageOn_5 ?_
    refine ya_aload_n 0 rfl dX12_villageOn_7 ?_
    refine ya_getR fo_X12_9 (hG.o0 83 rfl) (hG.lt0 83 (by decide)) (hG.l0 82 rfl) dX12_villageOn_8 ?_
    refine ya_iconst 2 (by decide) dX12_villageOn_11 ?_
    refine ya_iald (hG.s0 84 rfl) (hG.lt0 84 (by decide)) dX12_villageOn_12 h (fun x12 h => ?_)
    refine ya_icmp_ge 50 (by decide) dX12_villageOn_13 (fun c => ?_) (fun c => ?_)
    · replace h := ya_itet h c
      refine ya_iload_n 3 rfl dX12_villageOn_50 ?_
      cases h
      exact ya_iret rfl rfl rfl rfl rfl (Nat.le_refl _) dX12_villageOn_51
    · replace h := ya_itef h c
      refine ya_iload_n 3 rfl dX12_villageOn_16 ?_
      refine ya_iload_n 1 rfl dX12_villageOn_17 ?_
      refine ya_iload 4 rfl dX12_villageOn_18 ?_
      refine ya_ishr dX12_villageOn_20 ?_
      refine ya_iconst 1 (by decide) dX12_villageOn_21 ?_
      refine ya_iand dX12_villageOn_22 ?_
      refine ya_iconst 1 (by decide) dX12_villageOn_23 ?_
      refine ya_j1_s h (fun t0_42 => ya_E X Y_X12_villageOn (ya_M X (some (.int rr), G, d) 0 0) 42 [(0, .ref (X.2.1 + 83)), (1, .int v1), (2, .int v2), (4, .int v4)] [.int t0_42, .int v3] G d 0 0) (fun t0_42 h => ?_) (fun k42 hk42 h => ?_)
      · refine ya_iadd dX12_villageOn_42 ?_
        refine ya_istore_n [(3, .int (v3 + t0_42)), (0, .ref (X.2.1 + 83)), (1, .int v1), (2, .int v2), (4, .int v4)] (by decide) rfl dX12_villageOn_43 ?_
        refine ya_iinc (v4 + 1) rfl 4 rfl [(4, .int (v4 + 1)), (3, .int (v3 + t0_42)), (0, .ref (X.2.1 + 83)), (1, .int v1), (2, .int v2)] (by decide) rfl dX12_villageOn_44 ?_
        refine ya_goto 5 (by decide) dX12_villageOn_47 ?_
        refine ya_sub [(0, .ref (X.2.1 + 83)), (1, .int v1), (2, .int v2), (3, .int (v3 + t0_42)), (4, .int (v4 + 1))] [2, 3, 4, 1, 0] rfl ?_
        exact ih _ _ h
      · refine ya_icmp_ne 41 (by decide) dX12_villageOn_24 (fun c => ?_) (fun c => ?_)
        · replace h := ya_itef h c
          refine ya_iconst 0 (by decide) dX12_villageOn_41 ?_
          refine ya_sub [(0, .ref (X.2.1 + 83)), (1, .int v1), (2, .int v2), (4, .int v4)] [0, 1, 2, 4] rfl ?_
          exact hk42 _ h
        · replace h := ya_itet h c
          refine ya_aload_n 0 rfl dX12_villageOn_27 ?_
          refine ya_getR fo_X12_46 (hG.o0 83 rfl) (hG.lt0 83 (by decide)) (hG.l0 92 rfl) dX12_villageOn_28 ?_
          refine ya_iload 4 rfl dX12_villageOn_31 ?_
          refine ya_iload_n 2 rfl dX12_villageOn_33 ?_
          obtain ⟨x34, e34, h⟩ := ya_ob h
          refine ya_callSi (S := [.ref (X.2.1 + 94), .int v3]) (c_X12_at hG e34) m_X12_at ⟨rfl, rfl⟩ ml_X12_105 rfl ⟨Nat.le_of_ble_eq_true rfl, Nat.le_of_ble_eq_true rfl⟩ (Nat.le_of_ble_eq_true rfl) ⟨Nat.le_refl _, Nat.le_refl _⟩ dX12_villageOn_34 rfl ?_
          refine ya_iald (hG.s0 94 rfl) (hG.lt0 94 (by decide)) dX12_villageOn_37 h (fun x37 h => ?_)
          refine ya_goto 42 (by decide) dX12_villageOn_38 ?_
          refine ya_sub [(0, .ref (X.2.1 + 83)), (1, .int v1), (2, .int v2), (4, .int v4)] [0, 1, 2, 4] rfl ?_
          exact hk42 _ h
set_option maxRecDepth 20000 in
theorem c_X12_villageOn {X : ya_X} {G : ya_G} {v1 : Int32} {v2 : Int32} {d : ya_D} {rr : Int32} (hG : ya_Bk ya_sh ya_ln G 0) (h : f_X12_villageOn v1 v2 d = some rr) : ya_Ct X yX12_villageOn Y_X12_villageOn [.ref (X.2.1 + 83), .int v1, .int v2] G d (some (.int rr), G, d) := by
  refine ya_ct (by decide +kernel) rfl rfl (Nat.le_of_ble_eq_true rfl) ?_
  unfold f_X12_villageOn at h
  show ya_E X Y_X12_villageOn (ya_M X (some (.int rr), G, d) 0 0) 0 [(0, .ref (X.2.1 + 83)), (1, .int v1), (2, .int v2)] [] G d 0 0
  refine ya_iconst 0 (by decide) dX12_villageOn_0 ?_
  refine ya_istore_n [(3, .int 0), (0, .ref (X.2.1 + 83)), (1, .int v1), (2, .int v2)] (by decide) rfl dX12_villageOn_1 ?_
  refine ya_iconst 0 (by decide) dX12_villageOn_2 ?_
  refine ya_istore [(4, .int 0), (3, .int 0), (0, .ref (X.2.1 + 83)), (1, .int v1), (2, .int v2)] (by decide) rfl dX12_villageOn_3 ?_
  refine ya_sub [(0, .ref (X.2.1 + 83)), (1, .int v1), (2, .int v2), (3, .int 0), (4, .int 0)] [2, 3, 4, 1, 0] rfl ?_
  refine w_X12_villageOn_L5 hG  ya_F _ _ h
set_option maxRecDepth 20000 in
theorem w_X12_village_L55 {X : ya_X} {G : ya_G} {v1 : Int32} {v2 : Int32} {d : ya_D} {rr : (Int32 × ya_D)} {e107 : Int32 → Int32 → Option (Int32 × ya_D)} (hG : ya_Bk ya_sh ya_ln G 0) (he107 : ∀ (v3 : Int32) (v4 : Int32), e107 v3 v4 = some rr → ya_E X Y_X12_village (ya_M X (some (.int rr.1), G, rr.2) 0 0) 107 [(0, .ref (X.2.1 + 83)), (1, .int v1), (2, .int v2), (3, .int v3), (4, .int v4)] [] G d 0 0) : ∀ (n : Nat) (v3 : Int32) (v4 : Int32) (v5 : Int32), f_X12_village_L55 v1 v2 d e107 n v3 v4 v5 = some rr → ya_E X Y_X12_village (ya_M X (some (.int rr.1), G, rr.2) 0 0) 55 [(0, .ref (X.2.1 + 83)), (1, .int v1), (2, .int v2), (3, .int v3), (4, .int v4), (5, .int v5)] [] G d 0 0 := by
  intro n
  induction n with
  | zero => intro v3 v4 v5 h; cases h
  | succ n ih =>
    intro v3 v4 v5 h
    rw [f_X12_village_L55] at h
    refine ya_iload 5 rfl dX12_village_55 ?_
    refine ya_aload_n 0 rfl dX12_village_57 ?_
    refine ya_getR fo_X12_9 (hG.o0 83 rfl) (hG.lt0 83 (by decide)) (hG.l0 82 rfl) dX12_village_58 ?_
    refine ya_iconst 0 (by decide) dX12_village_61 ?_
    refine ya_iald (hG.s0 84 rfl) (hG.lt0 84 (by decide)) dX12_village_62 h (fun x62 h => ?_)
    refine ya_icmp_ge 107 (by decide) dX12_village_63 (fun c => ?_) (fun c => ?_)
    · replace h := ya_itet h c
      refine ya_sub [(0, .ref (X.2.1 + 83)), (1, .int v1), (2, .int v2), (3, .int v3), (4, .int v4)] [0, 1, 2, 3, 4] rfl ?_
      exact he107 _ _ h
    · replace h := ya_itef h c
      refine ya_aload_n 0 rfl dX12_village_66 ?_
      refine ya_iload_n 1 rfl dX12_village_67 ?_
      refine ya_iload 5 rfl dX12_village_68 ?_
      obtain ⟨x70, e70, h⟩ := ya_ob h
      refine ya_callVi (S := []) (c_X12_villageOn hG e70) m_X12_villageOn ⟨rfl, rfl⟩ ml_X12_402 rfl ⟨Nat.le_of_ble_eq_true rfl, Nat.le_of_ble_eq_true rfl⟩ (Nat.le_of_ble_eq_true rfl) (hG.lt0 83 (by decide)) (hG.o0 83 rfl) (by decide) rfl rfl ⟨Nat.le_refl _, Nat.le_refl _⟩ dX12_village_70 rfl ?_
      refine ya_aload_n 0 rfl dX12_village_73 ?_
      refine ya_iload_n 1 rfl dX12_village_74 ?_
      refine ya_iload_n 3 rfl dX12_village_75 ?_
      obtain ⟨x76, e76, h⟩ := ya_ob h
      refine ya_callVi (S := [.int x70]) (c_X12_villageOn hG e76) m_X12_villageOn ⟨rfl, rfl⟩ ml_X12_402 rfl ⟨Nat.le_of_ble_eq_true rfl, Nat.le_of_ble_eq_true rfl⟩ (Nat.le_of_ble_eq_true rfl) (hG.lt0 83 (by decide)) (hG.o0 83 rfl) (by decide) rfl rfl ⟨Nat.le_refl _, Nat.le_refl _⟩ dX12_village_76 rfl ?_
      refine ya_j1_s h (fun t0_88 => ya_E X Y_X12_village (ya_M X (some (.int rr.1), G, rr.2) 0 0) 88 [(0, .ref (X.2.1 + 83)), (1, .int v1), (2, .int v2), (4, .int v4), (5, .int v5)] [.int t0_88] G d 0 0) (fun t0_88 h => ?_) (fun k88 hk88 h => ?_)
      · refine ya_istore_n [(3, .int t0_88), (0, .ref (X.2.1 + 83)), (1, .int v1), (2, .int v2), (4, .int v4), (5, .int v5)] (by decide) rfl dX12_village_88 ?_
        refine ya_iload 4 rfl dX12_village_89 ?_
        refine ya_aload_n 1 rfl dX12_village_91 ?_
        refine ya_iload_n 2 rfl dX12_village_92 ?_
        refine ya_iload 5 rfl dX12_village_93 ?_
        obtain ⟨x95, e95, h⟩ := ya_ob h
        refine ya_callVi (S := [.int v4]) (c_X12_villageOn hG e95) m_X12_villageOn ⟨rfl, rfl⟩ ml_X12_402 rfl ⟨Nat.le_of_ble_eq_true rfl, Nat.le_of_ble_eq_true rfl⟩ (Nat.le_of_ble_eq_true rfl) (hG.lt0 83 (by decide)) (hG.o0 83 rfl) (by decide) rfl rfl ⟨Nat.le_refl _, Nat.le_refl _⟩ dX12_village_95 rfl ?_
        refine ya_iadd dX12_village_98 ?_
        refine ya_istore [(4, .int (v4 + x95)), (3, .int t0_88), (0, .ref (X.2.1 + 83)), (1, .int v1), (2, .int v2), (5, .int v5)] (by decide) rfl dX12_village_99 ?_
        refine ya_iinc (v5 + 1) rfl 5 rfl [(5, .int (v5 + 1)), (4, .int (v4 + x95)), (3, .int t0_88), (0, .ref (X.2.1 + 83)), (1, .int v1), (2, .int v2)] (by decide) rfl dX12_village_101 ?_
        refine ya_goto 55 (by decide) dX12_village_104 ?_
        refine ya_sub [(0, .ref (X.2.1 + 83)), (1, .int v1), (2, .int v2), (3, .int t0_88), (4, .int (v4 + x95)), (5, .int (v5 + 1))] [3, 4, 5, 2, 1, 0] rfl ?_
        exact ih _ _ _ h
      · refine ya_icmp_le 87 (by decide) dX12_village_79 (fun c => ?_) (fun c => ?_)
        · replace h := ya_itet h c
          refine ya_iload_n 3 rfl dX12_village_87 ?_
          refine ya_sub [(0, .ref (X.2.1 + 83)), (1, .int v1), (2, .int v2), (4, .int v4), (5, .int v5)] [0, 1, 2, 4, 5] rfl ?_
          exact hk88 _ h
        · replace h := ya_itef h c
          refine ya_iload 5 rfl dX12_village_82 ?_
          refine ya_goto 88 (by decide) dX12_village_84 ?_
          refine ya_sub [(0, .ref (X.2.1 + 83)), (1, .int v1), (2, .int v2), (4, .int v4), (5, .int v5)] [0, 1, 2, 4, 5] rfl ?_
          exact hk88 _ h
set_option maxRecDepth 20000 in
theorem c_X12_village {X : ya_X} {G : ya_G} {v1 : Int32} {v2 : Int32} {d : ya_D} {rr : (Int32 × ya_D)} (hG : ya_Bk ya_sh ya_ln G 0) (h : f_X12_village v1 v2 d = some rr) : ya_Ct X yX12_village Y_X12_village [.ref (X.2.1 + 83), .int v1, .int v2] G d (some (.int rr.1), G, rr.2) := by
  refine ya_ct (by decide +kernel) rfl rfl (Nat.le_of_ble_eq_true rfl) ?_
  unfold f_X12_village at h
  show ya_E X Y_X12_village (ya_M X (some (.int rr.1), G, rr.2) 0 0) 0 [(0, .ref (X.2.1 + 83)), (1, .int v1), (2, .int v2)] [] G d 0 0
  refine ya_aload_n 0 rfl dX12_village_0 ?_
  obtain ⟨x1, e1, h⟩ := ya_ob h
  refine ya_callVi (S := []) (c_X12_isMarket hG e1) m_X12_isMarket ⟨rfl, rfl⟩ ml_X12_330 rfl ⟨Nat.le_of_ble_eq_true rfl, Nat.le_of_ble_eq_true rfl⟩ (Nat.le_of_ble_eq_true rfl) (hG.lt0 83 (by decide)) (hG.o0 83 rfl) (by decide) rfl rfl ⟨Nat.le_refl _, Nat.le_refl _⟩ dX12_village_1 rfl ?_
  refine ya_j0_s h (ya_E X Y_X12_village (ya_M X (some (.int rr.1), G, rr.2) 0 0) 39 [] [] G d 0 0) (fun h => ?_) (fun k39 hk39 h => ?_)
  · refine ya_bipush (-2) (by decide) dX12_village_39 ?_
    cases h
    exact ya_iret rfl rfl rfl rfl rfl (Nat.le_refl _) dX12_village_41
  · refine ya_ifeq 39 (by decide) dX12_village_4 (fun c => ?_) (fun c => ?_)
    · replace h := ya_itet h c
      refine ya_sub [] [] rfl ?_
      exact hk39  h
    · replace h := ya_itef h c
      refine ya_iload_n 1 rfl dX12_village_7 ?_
      refine ya_i2l dX12_village_8 ?_
      refine ya_lconst 0 rfl dX12_village_9 ?_
      refine ya_iconst 1 (by decide) dX12_village_10 ?_
      refine ya_aload_n 0 rfl dX12_village_11 ?_
      refine ya_getR fo_X12_9 (hG.o0 83 rfl) (hG.lt0 83 (by decide)) (hG.l0 82 rfl) dX12_village_12 ?_
      refine ya_iconst 2 (by decide) dX12_village_15 ?_
      refine ya_iald (hG.s0 84 rfl) (hG.lt0 84 (by decide)) dX12_village_16 h (fun x16 h => ?_)
      refine ya_ishl dX12_village_17 ?_
      refine ya_iconst 1 (by decide) dX12_village_18 ?_
      refine ya_isub dX12_village_19 ?_
      refine ya_i2l dX12_village_20 ?_
      obtain ⟨x21, e21, h⟩ := ya_ob h
      refine ya_callSi (S := []) (c_X12_in hG e21) m_X12_in ⟨rfl, rfl⟩ ml_X12_94 rfl ⟨Nat.le_of_ble_eq_true rfl, Nat.le_of_ble_eq_true rfl⟩ (Nat.le_of_ble_eq_true rfl) ⟨Nat.le_refl _, Nat.le_refl _⟩ dX12_village_21 rfl ?_
      refine ya_ifeq 39 (by decide) dX12_village_24 (fun c => ?_) (fun c => ?_)
      · replace h := ya_itet h c
        refine ya_sub [] [] rfl ?_
        exact hk39  h
      · replace h := ya_itef h c
        refine ya_iload_n 2 rfl dX12_village_27 ?_
        refine ya_i2l dX12_village_28 ?_
        refine ya_lconst 0 rfl dX12_village_29 ?_
        refine ya_ldc2 2 kc_X12_92 dX12_village_30 ?_
        obtain ⟨x33, e33, h⟩ := ya_ob h
        refine ya_callSi (S := []) (c_X12_in hG e33) m_X12_in ⟨rfl, rfl⟩ ml_X12_94 rfl ⟨Nat.le_of_ble_eq_true rfl, Nat.le_of_ble_eq_true rfl⟩ (Nat.le_of_ble_eq_true rfl) ⟨Nat.le_refl _, Nat.le_refl _⟩ dX12_village_33 rfl ?_
        refine ya_ifne 42 (by decide) dX12_village_36 (fun c => ?_) (fun c => ?_)
        · replace h := ya_itef h c
          refine ya_aload_n 0 rfl dX12_village_42 ?_
          refine ya_lconst 1 rfl dX12_village_43 ?_
          obtain ⟨d44, e44, h⟩ := ya_ob h
          refine ya_callVv (S := []) (c_X12_runs hG e44) m_X12_runs ⟨rfl, rfl⟩ ml_X12_311 rfl ⟨Nat.le_of_ble_eq_true rfl, Nat.le_of_ble_eq_true rfl⟩ (Nat.le_of_ble_eq_true rfl) (hG.lt0 83 (by decide)) (hG.o0 83 rfl) (by decide) rfl rfl ⟨Nat.le_refl _, Nat.le_refl _⟩ dX12_village_44 rfl ?_
          refine ya_iconst 0 (by decide) dX12_village_47 ?_
          refine ya_istore_n [(3, .int 0), (0, .ref (X.2.1 + 83)), (1, .int v1), (2, .int v2)] (by decide) rfl dX12_village_48 ?_
          refine ya_iconst 0 (by decide) dX12_village_49 ?_
          refine ya_istore [(4, .int 0), (3, .int 0), (0, .ref (X.2.1 + 83)), (1, .int v1), (2, .int v2)] (by decide) rfl dX12_village_50 ?_
          refine ya_iconst 0 (by decide) dX12_village_52 ?_
          refine ya_istore [(5, .int 0), (4, .int 0), (3, .int 0), (0, .ref (X.2.1 + 83)), (1, .int v1), (2, .int v2)] (by decide) rfl dX12_village_53 ?_
          refine ya_sub [(0, .ref (X.2.1 + 83)), (1, .int v1), (2, .int v2), (3, .int 0), (4, .int 0), (5, .int 0)] [3, 4, 5, 2, 1, 0] rfl ?_
          refine w_X12_village_L55 hG (fun v3_107 v4_107 h => ?_) ya_F _ _ _ h
          refine ya_iload_n 2 rfl dX12_village_107 ?_
          refine ya_ifne 124 (by decide) dX12_village_108 (fun c => ?_) (fun c => ?_)
          · replace h := ya_itef h c
            refine ya_iload_n 2 rfl dX12_village_124 ?_
            refine ya_iconst 1 (by decide) dX12_village_125 ?_
            refine ya_icmp_ne 138 (by decide) dX12_village_126 (fun c => ?_) (fun c => ?_)
            · replace h := ya_itef h c
              refine ya_iload 4 rfl dX12_village_138 ?_
              cases h
              exact ya_iret rfl rfl rfl rfl rfl (Nat.le_refl _) dX12_village_140
            · replace h := ya_itet h c
              refine ya_aload_n 0 rfl dX12_village_129 ?_
              refine ya_iload_n 1 rfl dX12_village_130 ?_
              refine ya_iload_n 3 rfl dX12_village_131 ?_
              obtain ⟨x132, e132, h⟩ := ya_ob h
              refine ya_callVi (S := []) (c_X12_villageOn hG e132) m_X12_villageOn ⟨rfl, rfl⟩ ml_X12_402 rfl ⟨Nat.le_of_ble_eq_true rfl, Nat.le_of_ble_eq_true rfl⟩ (Nat.le_of_ble_eq_true rfl) (hG.lt0 83 (by decide)) (hG.o0 83 rfl) (by decide) rfl rfl ⟨Nat.le_refl _, Nat.le_refl _⟩ dX12_village_132 rfl ?_
              refine ya_goto 140 (by decide) dX12_village_135 ?_
              cases h
              exact ya_iret rfl rfl rfl rfl rfl (Nat.le_refl _) dX12_village_140
          · replace h := ya_itet h c
            refine ya_iload 4 rfl dX12_village_111 ?_
            refine ya_ifne 120 (by decide) dX12_village_113 (fun c => ?_) (fun c => ?_)
            · replace h := ya_itef h c
              refine ya_iload_n 3 rfl dX12_village_120 ?_
              refine ya_goto 140 (by decide) dX12_village_121 ?_
              cases h
              exact ya_iret rfl rfl rfl rfl rfl (Nat.le_refl _) dX12_village_140
            · replace h := ya_itet h c
              refine ya_iconst (-1) (by decide) dX12_village_116 ?_
              refine ya_goto 140 (by decide) dX12_village_117 ?_
              cases h
              exact ya_iret rfl rfl rfl rfl rfl (Nat.le_refl _) dX12_village_140
        · replace h := ya_itet h c
          refine ya_sub [] [] rfl ?_
          exact hk39  h
