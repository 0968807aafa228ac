set_option maxRecDepth 20000 in
theorem w_X12_factorial_L4 {X : ya_X} {G : ya_G} {v0 : Int32} {d : ya_D} {rr : Int32} (hG : ya_Bk ya_sh ya_ln G 0) : ∀ (n : Nat) (v1 : Int32) (v2 : Int32), f_X12_factorial_L4 v0 n v1 v2 = some rr → ya_E X Y_X12_factorial (ya_M X (some (.int rr), G, d) 0 0) 4 [(0, .int v0), (1, .int v1), (2, .int v2)] [] G d 0 0 := by
  intro n
  induction n with
  | zero => intro v1 v2 h; cases h
  | succ n ih =>
    intro v1 v2 h
    rw [f_X12_factorial_L4] at h
    refine ya_iload_n 2 rfl dX12_factorial_4 ?_
    refine ya_iload_n 0 rfl dX12_factorial_5 ?_
    refine ya_icmp_gt 19 (by decide) dX12_factorial_6 (fun c => ?_) (fun c => ?_)
    · replace h := ya_itet h c
      refine ya_iload_n 1 rfl dX12_factorial_19 ?_
      cases h
      exact ya_iret rfl rfl rfl rfl rfl (Nat.le_refl _) dX12_factorial_20
    · replace h := ya_itef h c
      refine ya_iload_n 1 rfl dX12_factorial_9 ?_
      refine ya_iload_n 2 rfl dX12_factorial_10 ?_
      refine ya_imul dX12_factorial_11 ?_
      refine ya_istore_n [(1, .int (v1 * v2)), (0, .int v0), (2, .int v2)] (by decide) rfl dX12_factorial_12 ?_
      refine ya_iinc (v2 + 1) rfl 2 rfl [(2, .int (v2 + 1)), (1, .int (v1 * v2)), (0, .int v0)] (by decide) rfl dX12_factorial_13 ?_
      refine ya_goto 4 (by decide) dX12_factorial_16 ?_
      refine ya_sub [(0, .int v0), (1, .int (v1 * v2)), (2, .int (v2 + 1))] [2, 1, 0] rfl ?_
      exact ih _ _ h
set_option maxRecDepth 20000 in
theorem c_X12_factorial {X : ya_X} {G : ya_G} {v0 : Int32} {d : ya_D} {rr : Int32} (hG : ya_Bk ya_sh ya_ln G 0) (h : f_X12_factorial v0 = some rr) : ya_Ct X yX12_factorial Y_X12_factorial [.int v0] G d (some (.int rr), G, d) := by
  refine ya_ct (by decide +kernel) rfl rfl (Nat.le_of_ble_eq_true rfl) ?_
  unfold f_X12_factorial at h
  show ya_E X Y_X12_factorial (ya_M X (some (.int rr), G, d) 0 0) 0 [(0, .int v0)] [] G d 0 0
  refine ya_iconst 1 (by decide) dX12_factorial_0 ?_
  refine ya_istore_n [(1, .int 1), (0, .int v0)] (by decide) rfl dX12_factorial_1 ?_
  refine ya_iconst 2 (by decide) dX12_factorial_2 ?_
  refine ya_istore_n [(2, .int 2), (1, .int 1), (0, .int v0)] (by decide) rfl dX12_factorial_3 ?_
  refine ya_sub [(0, .int v0), (1, .int 1), (2, .int 2)] [2, 1, 0] rfl ?_
  refine w_X12_factorial_L4 hG  ya_F _ _ h
set_option maxRecDepth 20000 in
theorem w_X12_orders_L26 {X : ya_X} {G : ya_G} {v1 : Int32} {v2 : Int32} {v3 : Int32} {v4 : Int32} {v5 : Int32} {d : ya_D} {rr : Int32} {e94 : Int32 → Int32 → Int32 → Option Int32} (hG : ya_Bk ya_sh ya_ln G 0) (he94 : ∀ (v6 : Int32) (v7 : Int32) (v8 : Int32), e94 v6 v7 v8 = some rr → ya_E X Y_X12_orders (ya_M X (some (.int rr), G, d) 0 0) 94 [(0, .ref (X.2.1 + 83)), (1, .int v1), (2, .int v2), (3, .int v3), (4, .int v4), (5, .int v5), (6, .int v6), (7, .int v7), (8, .int v8)] [] G d 0 0) : ∀ (n : Nat) (v6 : Int32) (v7 : Int32) (v8 : Int32) (v9 : Int32), f_X12_orders_L26 v1 v2 v3 v4 v5 d e94 n v6 v7 v8 v9 = some rr → ya_E X Y_X12_orders (ya_M X (some (.int rr), G, d) 0 0) 26 [(0, .ref (X.2.1 + 83)), (1, .int v1), (2, .int v2), (3, .int v3), (4, .int v4), (5, .int v5), (6, .int v6), (7, .int v7), (8, .int v8), (9, .int v9)] [] G d 0 0 := by
  intro n
  induction n with
  | zero => intro v6 v7 v8 v9 h; cases h
  | succ n ih =>
    intro v6 v7 v8 v9 h
    rw [f_X12_orders_L26] at h
    refine ya_iload 9 rfl dX12_orders_26 ?_
    refine ya_iload_n 2 rfl dX12_orders_28 ?_
    refine ya_icmp_ge 94 (by decide) dX12_orders_29 (fun c => ?_) (fun c => ?_)
    · replace h := ya_itet h c
      refine ya_sub [(0, .ref (X.2.1 + 83)), (1, .int v1), (2, .int v2), (3, .int v3), (4, .int v4), (5, .int v5), (6, .int v6), (7, .int v7), (8, .int v8)] [0, 1, 2, 3, 4, 5, 6, 7, 8] rfl ?_
      exact he94 _ _ _ h
    · replace h := ya_itef h c
      refine ya_iload 5 rfl dX12_orders_32 ?_
      refine ya_iload 9 rfl dX12_orders_34 ?_
      refine ya_ishr dX12_orders_36 ?_
      refine ya_iconst 1 (by decide) dX12_orders_37 ?_
      refine ya_iand dX12_orders_38 ?_
      refine ya_j3_s h (fun v6_88 v7_88 v8_88 => ya_E X Y_X12_orders (ya_M X (some (.int rr), G, d) 0 0) 88 [(0, .ref (X.2.1 + 83)), (1, .int v1), (2, .int v2), (3, .int v3), (4, .int v4), (5, .int v5), (6, .int v6_88), (7, .int v7_88), (8, .int v8_88), (9, .int v9)] [] G d 0 0) (fun v6_88 v7_88 v8_88 h => ?_) (fun k88 hk88 h => ?_)
      · refine ya_iinc (v9 + 1) rfl 9 rfl [(9, .int (v9 + 1)), (0, .ref (X.2.1 + 83)), (1, .int v1), (2, .int v2), (3, .int v3), (4, .int v4), (5, .int v5), (6, .int v6_88), (7, .int v7_88), (8, .int v8_88)] (by decide) rfl dX12_orders_88 ?_
        refine ya_goto 26 (by decide) dX12_orders_91 ?_
        refine ya_sub [(0, .ref (X.2.1 + 83)), (1, .int v1), (2, .int v2), (3, .int v3), (4, .int v4), (5, .int v5), (6, .int v6_88), (7, .int v7_88), (8, .int v8_88), (9, .int (v9 + 1))] [1, 2, 3, 4, 5, 6, 7, 8, 9, 0] rfl ?_
        exact ih _ _ _ _ h
      · refine ya_ifne 45 (by decide) dX12_orders_39 (fun c => ?_) (fun c => ?_)
        · replace h := ya_itef h c
          refine ya_iload 8 rfl dX12_orders_45 ?_
          refine ya_j1_s h (fun t0_66 => ya_E X Y_X12_orders (ya_M X (some (.int rr), G, d) 0 0) 66 [(0, .ref (X.2.1 + 83)), (1, .int v1), (2, .int v2), (3, .int v3), (4, .int v4), (5, .int v5), (6, .int v6), (7, .int v7), (9, .int v9)] [.int t0_66] G d 0 0) (fun t0_66 h => ?_) (fun k66 hk66 h => ?_)
          · refine ya_istore [(8, .int t0_66), (0, .ref (X.2.1 + 83)), (1, .int v1), (2, .int v2), (3, .int v3), (4, .int v4), (5, .int v5), (6, .int v6), (7, .int v7), (9, .int v9)] (by decide) rfl dX12_orders_66 ?_
            refine ya_iinc (v6 + 1) rfl 7 rfl [(6, .int (v6 + 1)), (8, .int t0_66), (0, .ref (X.2.1 + 83)), (1, .int v1), (2, .int v2), (3, .int v3), (4, .int v4), (5, .int v5), (7, .int v7), (9, .int v9)] (by decide) rfl dX12_orders_68 ?_
            refine ya_iload 8 rfl dX12_orders_71 ?_
            refine ya_aload_n 2 rfl dX12_orders_73 ?_
            refine ya_aload_n 2 rfl dX12_orders_74 ?_
            refine ya_getR fo_X12_67 (hG.o0 83 rfl) (hG.lt0 83 (by decide)) (hG.l0 99 rfl) dX12_orders_75 ?_
            refine ya_iload 9 rfl dX12_orders_78 ?_
            refine ya_iald (hG.s0 101 rfl) (hG.lt0 101 (by decide)) dX12_orders_80 h (fun x80 h => ?_)
            refine ya_iconst 1 (by decide) dX12_orders_81 ?_
            obtain ⟨x82, e82, h⟩ := ya_ob h
            refine ya_callVi (S := [.int v7]) (c_X12_of hG e82) m_X12_of ⟨rfl, rfl⟩ ml_X12_260 rfl ⟨Nat.le_of_ble_eq_true rfl, Nat.le_of_ble_eq_true rfl⟩ (Nat.le_of_ble_eq_true rfl) (hG.lt0 83 (by decide)) (hG.o0 83 rfl) (by decide) rfl rfl ⟨Nat.le_refl _, Nat.le_refl _⟩ dX12_orders_82 rfl ?_
            refine ya_iadd dX12_orders_85 ?_
            refine ya_istore [(7, .int (v7 + x82)), (6, .int (v6 + 1)), (8, .int t0_66), (0, .ref (X.2.1 + 83)), (1, .int v1), (2, .int v2), (3, .int v3), (4, .int v4), (5, .int v5), (9, .int v9)] (by decide) rfl dX12_orders_86 ?_
            refine ya_sub [(0, .ref (X.2.1 + 83)), (1, .int v1), (2, .int v2), (3, .int v3), (4, .int v4), (5, .int v5), (6, .int (v6 + 1)), (7, .int (v7 + x82)), (8, .int t0_66), (9, .int v9)] [3, 4, 5, 6, 7, 8, 1, 0, 2, 9] rfl ?_
            exact hk88 _ _ _ h
          · refine ya_j0_s h (ya_E X Y_X12_orders (ya_M X (some (.int rr), G, d) 0 0) 65 [(0, .ref (X.2.1 + 83)), (1, .int v1), (2, .int v2), (3, .int v3), (4, .int v4), (5, .int v5), (6, .int v6), (7, .int v7), (9, .int v9)] [] G d 0 0) (fun h => ?_) (fun k65 hk65 h => ?_)
            · refine ya_iconst 0 (by decide) dX12_orders_65 ?_
              exact hk66 _ h
            · refine ya_ifeq 65 (by decide) dX12_orders_47 (fun c => ?_) (fun c => ?_)
              · replace h := ya_itet h c
                refine ya_sub [(0, .ref (X.2.1 + 83)), (1, .int v1), (2, .int v2), (3, .int v3), (4, .int v4), (5, .int v5), (6, .int v6), (7, .int v7), (9, .int v9)] [0, 1, 2, 3, 4, 5, 6, 7, 9] rfl ?_
                exact hk65  h
              · replace h := ya_itef h c
                refine ya_aload_n 0 rfl dX12_orders_50 ?_
                refine ya_getR fo_X12_67 (hG.o0 83 rfl) (hG.lt0 83 (by decide)) (hG.l0 99 rfl) dX12_orders_51 ?_
                refine ya_iload 9 rfl dX12_orders_54 ?_
                refine ya_iald (hG.s0 101 rfl) (hG.lt0 101 (by decide)) dX12_orders_56 h (fun x56 h => ?_)
                refine ya_iload_n 1 rfl dX12_orders_57 ?_
                refine ya_icmp_eq 65 (by decide) dX12_orders_58 (fun c => ?_) (fun c => ?_)
                · replace h := ya_itet h c
                  refine ya_sub [(0, .ref (X.2.1 + 83)), (1, .int v1), (2, .int v2), (3, .int v3), (4, .int v4), (5, .int v5), (6, .int v6), (7, .int v7), (9, .int v9)] [0, 1, 2, 3, 4, 5, 6, 7, 9] rfl ?_
                  exact hk65  h
                · replace h := ya_itef h c
                  refine ya_iconst 1 (by decide) dX12_orders_61 ?_
                  refine ya_goto 66 (by decide) dX12_orders_62 ?_
                  refine ya_sub [(0, .ref (X.2.1 + 83)), (1, .int v1), (2, .int v2), (3, .int v3), (4, .int v4), (5, .int v5), (6, .int v6), (7, .int v7), (9, .int v9)] [0, 1, 2, 3, 4, 5, 6, 7, 9] rfl ?_
                  exact hk66 _ h
        · replace h := ya_itet h c
          refine ya_goto 88 (by decide) dX12_orders_42 ?_
          exact hk88 _ _ _ h
set_option maxRecDepth 20000 in
theorem w_X12_orders_L6 {X : ya_X} {G : ya_G} {v1 : Int32} {v2 : Int32} {v3 : Int32} {d : ya_D} {rr : Int32} (hG : ya_Bk ya_sh ya_ln G 0) : ∀ (n : Nat) (v4 : Int32) (v5 : Int32), f_X12_orders_L6 v1 v2 v3 d n v4 v5 = some rr → ya_E X Y_X12_orders (ya_M X (some (.int rr), G, d) 0 0) 6 [(0, .ref (X.2.1 + 83)), (1, .int v1), (2, .int v2), (3, .int v3), (4, .int v4), (5, .int v5)] [] G d 0 0 := by
  intro n
  induction n with
  | zero => intro v4 v5 h; cases h
  | succ n ih =>
    intro v4 v5 h
    rw [f_X12_orders_L6] at h
    refine ya_iload 5 rfl dX12_orders_6 ?_
    refine ya_iconst 1 (by decide) dX12_orders_8 ?_
    refine ya_iload_n 2 rfl dX12_orders_9 ?_
    refine ya_ishl dX12_orders_10 ?_
    refine ya_icmp_ge 138 (by decide) dX12_orders_11 (fun c => ?_) (fun c => ?_)
    · replace h := ya_itet h c
      refine ya_iload 4 rfl dX12_orders_138 ?_
      cases h
      exact ya_iret rfl rfl rfl rfl rfl (Nat.le_refl _) dX12_orders_140
    · replace h := ya_itef h c
      refine ya_iconst 0 (by decide) dX12_orders_14 ?_
      refine ya_istore [(6, .int 0), (0, .ref (X.2.1 + 83)), (1, .int v1), (2, .int v2), (3, .int v3), (4, .int v4), (5, .int v5)] (by decide) rfl dX12_orders_15 ?_
      refine ya_iconst 0 (by decide) dX12_orders_17 ?_
      refine ya_istore [(7, .int 0), (6, .int 0), (0, .ref (X.2.1 + 83)), (1, .int v1), (2, .int v2), (3, .int v3), (4, .int v4), (5, .int v5)] (by decide) rfl dX12_orders_18 ?_
      refine ya_iconst 1 (by decide) dX12_orders_20 ?_
      refine ya_istore [(8, .int 1), (7, .int 0), (6, .int 0), (0, .ref (X.2.1 + 83)), (1, .int v1), (2, .int v2), (3, .int v3), (4, .int v4), (5, .int v5)] (by decide) rfl dX12_orders_21 ?_
      refine ya_iconst 0 (by decide) dX12_orders_23 ?_
      refine ya_istore [(9, .int 0), (8, .int 1), (7, .int 0), (6, .int 0), (0, .ref (X.2.1 + 83)), (1, .int v1), (2, .int v2), (3, .int v3), (4, .int v4), (5, .int v5)] (by decide) rfl dX12_orders_24 ?_
      refine ya_sub [(0, .ref (X.2.1 + 83)), (1, .int v1), (2, .int v2), (3, .int v3), (4, .int v4), (5, .int v5), (6, .int 0), (7, .int 0), (8, .int 1), (9, .int 0)] [4, 5, 6, 7, 8, 9, 3, 2, 1, 0] rfl ?_
      refine w_X12_orders_L26 hG (fun v6_94 v7_94 v8_94 h => ?_) ya_F _ _ _ _ h
      refine ya_iload 8 rfl dX12_orders_94 ?_
      refine ya_j1_s h (fun v4_132 => ya_E X Y_X12_orders (ya_M X (some (.int rr), G, d) 0 0) 132 [(0, .ref (X.2.1 + 83)), (1, .int v1), (2, .int v2), (3, .int v3), (4, .int v4_132), (5, .int v5)] [] G d 0 0) (fun v4_132 h => ?_) (fun k132 hk132 h => ?_)
      · refine ya_iinc (v5 + 1) rfl 5 rfl [(5, .int (v5 + 1)), (0, .ref (X.2.1 + 83)), (1, .int v1), (2, .int v2), (3, .int v3), (4, .int v4_132)] (by decide) rfl dX12_orders_132 ?_
        refine ya_goto 6 (by decide) dX12_orders_135 ?_
        refine ya_sub [(0, .ref (X.2.1 + 83)), (1, .int v1), (2, .int v2), (3, .int v3), (4, .int v4_132), (5, .int (v5 + 1))] [1, 2, 3, 4, 5, 0] rfl ?_
        exact ih _ _ h
      · refine ya_ifeq 132 (by decide) dX12_orders_96 (fun c => ?_) (fun c => ?_)
        · replace h := ya_itet h c
          refine ya_sub [(0, .ref (X.2.1 + 83)), (1, .int v1), (2, .int v2), (3, .int v3), (4, .int v4), (5, .int v5)] [0, 1, 2, 3, 4, 5] rfl ?_
          exact hk132 _ h
        · replace h := ya_itef h c
          refine ya_iload 7 rfl dX12_orders_99 ?_
          refine ya_aload_n 0 rfl dX12_orders_101 ?_
          refine ya_iload_n 1 rfl dX12_orders_102 ?_
          refine ya_iconst 1 (by decide) dX12_orders_103 ?_
          obtain ⟨x104, e104, h⟩ := ya_ob h
          refine ya_callVi (S := [.int v7_94]) (c_X12_of hG e104) m_X12_of ⟨rfl, rfl⟩ ml_X12_260 rfl ⟨Nat.le_of_ble_eq_true rfl, Nat.le_of_ble_eq_true rfl⟩ (Nat.le_of_ble_eq_true rfl) (hG.lt0 83 (by decide)) (hG.o0 83 rfl) (by decide) rfl rfl ⟨Nat.le_refl _, Nat.le_refl _⟩ dX12_orders_104 rfl ?_
          refine ya_iadd dX12_orders_107 ?_
          refine ya_iload_n 3 rfl dX12_orders_108 ?_
          refine ya_icmp_gt 132 (by decide) dX12_orders_109 (fun c => ?_) (fun c => ?_)
          · replace h := ya_itet h c
            refine ya_sub [(0, .ref (X.2.1 + 83)), (1, .int v1), (2, .int v2), (3, .int v3), (4, .int v4), (5, .int v5)] [0, 1, 2, 3, 4, 5] rfl ?_
            exact hk132 _ h
          · replace h := ya_itef h c
            refine ya_iload 4 rfl dX12_orders_112 ?_
            refine ya_iload 6 rfl dX12_orders_114 ?_
            obtain ⟨x116, e116, h⟩ := ya_ob h
            refine ya_callSi (S := [.int v4]) (c_X12_factorial hG e116) m_X12_factorial ⟨rfl, rfl⟩ ml_X12_405 rfl ⟨Nat.le_of_ble_eq_true rfl, Nat.le_of_ble_eq_true rfl⟩ (Nat.le_of_ble_eq_true rfl) ⟨Nat.le_refl _, Nat.le_refl _⟩ dX12_orders_116 rfl ?_
            refine ya_iload_n 2 rfl dX12_orders_119 ?_
            refine ya_iconst 1 (by decide) dX12_orders_120 ?_
            refine ya_isub dX12_orders_121 ?_
            refine ya_iload 6 rfl dX12_orders_122 ?_
            refine ya_isub dX12_orders_124 ?_
            obtain ⟨x125, e125, h⟩ := ya_ob h
            refine ya_callSi (S := [.int x116, .int v4]) (c_X12_factorial hG e125) m_X12_factorial ⟨rfl, rfl⟩ ml_X12_405 rfl ⟨Nat.le_of_ble_eq_true rfl, Nat.le_of_ble_eq_true rfl⟩ (Nat.le_of_ble_eq_true rfl) ⟨Nat.le_refl _, Nat.le_refl _⟩ dX12_orders_125 rfl ?_
            refine ya_imul dX12_orders_128 ?_
            refine ya_iadd dX12_orders_129 ?_
            refine ya_istore [(4, .int (v4 + (x116 * x125))), (0, .ref (X.2.1 + 83)), (1, .int v1), (2, .int v2), (3, .int v3), (5, .int v5), (6, .int v6_94), (7, .int v7_94), (8, .int v8_94)] (by decide) rfl dX12_orders_130 ?_
            refine ya_sub [(0, .ref (X.2.1 + 83)), (1, .int v1), (2, .int v2), (3, .int v3), (4, .int (v4 + (x116 * x125))), (5, .int v5)] [1, 2, 3, 4, 0, 5] rfl ?_
            exact hk132 _ h
set_option maxRecDepth 20000 in
theorem c_X12_orders {X : ya_X} {G : ya_G} {v1 : Int32} {v2 : Int32} {v3 : Int32} {d : ya_D} {rr : Int32} (hG : ya_Bk ya_sh ya_ln G 0) (h : f_X12_orders v1 v2 v3 d = some rr) : ya_Ct X yX12_orders Y_X12_orders [.ref (X.2.1 + 83), .int v1, .int v2, .int v3] G d (some (.int rr), G, d) := by
  refine ya_ct (by decide +kernel) rfl rfl (Nat.le_of_ble_eq_true rfl) ?_
  unfold f_X12_orders at h
  show ya_E X Y_X12_orders (ya_M X (some (.int rr), G, d) 0 0) 0 [(0, .ref (X.2.1 + 83)), (1, .int v1), (2, .int v2), (3, .int v3)] [] G d 0 0
  refine ya_iconst 0 (by decide) dX12_orders_0 ?_
  refine ya_istore [(4, .int 0), (0, .ref (X.2.1 + 83)), (1, .int v1), (2, .int v2), (3, .int v3)] (by decide) rfl dX12_orders_1 ?_
  refine ya_iconst 0 (by decide) dX12_orders_3 ?_
  refine ya_istore [(5, .int 0), (4, .int 0), (0, .ref (X.2.1 + 83)), (1, .int v1), (2, .int v2), (3, .int v3)] (by decide) rfl dX12_orders_4 ?_
  refine ya_sub [(0, .ref (X.2.1 + 83)), (1, .int v1), (2, .int v2), (3, .int v3), (4, .int 0), (5, .int 0)] [2, 3, 4, 5, 1, 0] rfl ?_
  refine w_X12_orders_L6 hG  ya_F _ _ h
set_option maxRecDepth 20000 in
theorem w_X12_divisor_L4 {X : ya_X} {G : ya_G} {d : ya_D} {rr : Int32} (hG : ya_Bk ya_sh ya_ln G 0) : ∀ (n : Nat) (v2 : Int32) (v3 : Int32), f_X12_divisor_L4  n v2 v3 = some rr → ya_E X Y_X12_divisor (ya_M X (some (.int rr), G, d) 0 0) 4 [(2, .int v2), (3, .int v3)] [] G d 0 0 := by
  intro n
  induction n with
  | zero => intro v2 v3 h; cases h
  | succ n ih =>
    intro v2 v3 h
    rw [f_X12_divisor_L4] at h
    refine ya_iload_n 1 rfl dX12_divisor_4 ?_
    refine ya_ifeq 21 (by decide) dX12_divisor_5 (fun c => ?_) (fun c => ?_)
    · replace h := ya_itet h c
      refine ya_iload_n 0 rfl dX12_divisor_21 ?_
      cases h
      exact ya_iret rfl rfl rfl rfl rfl (Nat.le_refl _) dX12_divisor_22
    · replace h := ya_itef h c
      refine ya_iload_n 0 rfl dX12_divisor_8 ?_
      refine ya_iload_n 1 rfl dX12_divisor_9 ?_
      refine ya_iremb dX12_divisor_10 h (fun x10 h => ?_)
      refine ya_istore [(4, .int x10), (2, .int v2), (3, .int v3)] (by decide) rfl dX12_divisor_11 ?_
      refine ya_iload_n 2 rfl dX12_divisor_13 ?_
      refine ya_istore_n [(2, .int v3), (4, .int x10), (3, .int v3)] (by decide) rfl dX12_divisor_14 ?_
      refine ya_iload 1 rfl dX12_divisor_15 ?_
      refine ya_istore_n [(3, .int x10), (2, .int v3), (4, .int x10)] (by decide) rfl dX12_divisor_17 ?_
      refine ya_goto 4 (by decide) dX12_divisor_18 ?_
      refine ya_sub [(2, .int v3), (3, .int x10)] [1, 0] rfl ?_
      exact ih _ _ h
set_option maxRecDepth 20000 in
theorem c_X12_divisor {X : ya_X} {G : ya_G} {v0 : Int32} {v1 : Int32} {d : ya_D} {rr : Int32} (hG : ya_Bk ya_sh ya_ln G 0) (h : f_X12_divisor v0 v1 = some rr) : ya_Ct X yX12_divisor Y_X12_divisor [.int v0, .int v1] G d (some (.int rr), G, d) := by
  refine ya_ct (by decide +kernel) rfl rfl (Nat.le_of_ble_eq_true rfl) ?_
  unfold f_X12_divisor at h
  show ya_E X Y_X12_divisor (ya_M X (some (.int rr), G, d) 0 0) 0 [(0, .int v0), (1, .int v1)] [] G d 0 0
  refine ya_iload_n 0 rfl dX12_divisor_0 ?_
  refine ya_istore_n [(2, .int v0), (0, .int v0), (1, .int v1)] (by decide) rfl dX12_divisor_1 ?_
  refine ya_iload_n 2 rfl dX12_divisor_2 ?_
  refine ya_istore_n [(3, .int v1), (2, .int v0), (0, .int v0), (1, .int v1)] (by decide) rfl dX12_divisor_3 ?_
  refine ya_sub [(2, .int v0), (3, .int v1)] [1, 0] rfl ?_
  refine w_X12_divisor_L4 hG  ya_F _ _ h
set_option maxRecDepth 20000 in
theorem c_X12_chance {X : ya_X} {G : ya_G} {v1 : Int32} {v2 : Int32} {v3 : Int32} {d : ya_D} {rr : (Int32 × ya_D)} (hG : ya_Bk ya_sh ya_ln G 0) (h : f_X12_chance v1 v2 v3 d = some rr) : ya_Ct X yX12_chance Y_X12_chance [.ref (X.2.1 + 83), .int v1, .int v2, .int v3] G d (some (.int rr.1), G, rr.2) := by
  refine ya_ct (by decide +kernel) rfl rfl (Nat.le_of_ble_eq_true rfl) ?_
  unfold f_X12_chance at h
  show ya_E X Y_X12_chance (ya_M X (some (.int rr.1), G, rr.2) 0 0) 0 [(0, .ref (X.2.1 + 83)), (1, .int v1), (2, .int v2), (3, .int v3)] [] G d 0 0
  refine ya_aload_n 0 rfl dX12_chance_0 ?_
  refine ya_iload_n 1 rfl dX12_chance_1 ?_
  obtain ⟨x2, e2, h⟩ := ya_ob h
  refine ya_callVi (S := []) (c_X12_isBuyer hG e2) m_X12_isBuyer ⟨rfl, rfl⟩ ml_X12_327 rfl ⟨Nat.le_of_ble_eq_true rfl, Nat.le_of_ble_eq_true rfl⟩ (Nat.le_of_ble_eq_true rfl) (hG.lt0 83 (by decide)) (hG.o0 83 rfl) (by decide) rfl rfl ⟨Nat.le_refl _, Nat.le_refl _⟩ dX12_chance_2 rfl ?_
  refine ya_j0_s h (ya_E X Y_X12_chance (ya_M X (some (.int rr.1), G, rr.2) 0 0) 27 [] [] G d 0 0) (fun h => ?_) (fun k27 hk27 h => ?_)
  · refine ya_bipush (-2) (by decide) dX12_chance_27 ?_
    cases h
    exact ya_iret rfl rfl rfl rfl rfl (Nat.le_refl _) dX12_chance_29
  · refine ya_ifeq 27 (by decide) dX12_chance_5 (fun c => ?_) (fun c => ?_)
    · replace h := ya_itet h c
      refine ya_sub [] [] rfl ?_
      exact hk27  h
    · replace h := ya_itef h c
      refine ya_aload_n 0 rfl dX12_chance_8 ?_
      refine ya_iload_n 2 rfl dX12_chance_9 ?_
      refine ya_i2l dX12_chance_10 ?_
      obtain ⟨x11, e11, h⟩ := ya_ob h
      refine ya_callVi (S := []) (c_X12_isDay hG e11) m_X12_isDay ⟨rfl, rfl⟩ ml_X12_102 rfl ⟨Nat.le_of_ble_eq_true rfl, Nat.le_of_ble_eq_true rfl⟩ (Nat.le_of_ble_eq_true rfl) (hG.lt0 83 (by decide)) (hG.o0 83 rfl) (by decide) rfl rfl ⟨Nat.le_refl _, Nat.le_refl _⟩ dX12_chance_11 rfl ?_
      refine ya_ifeq 27 (by decide) dX12_chance_14 (fun c => ?_) (fun c => ?_)
      · replace h := ya_itet h c
        refine ya_sub [] [] rfl ?_
        exact hk27  h
      · replace h := ya_itef h c
        refine ya_iload_n 3 rfl dX12_chance_17 ?_
        refine ya_i2l dX12_chance_18 ?_
        refine ya_lconst 0 rfl dX12_chance_19 ?_
        refine ya_lconst 1 rfl dX12_chance_20 ?_
        obtain ⟨x21, e21, h⟩ := ya_ob h
        refine ya_callSi (S := []) (c_X12_in hG e21) m_X12_in ⟨rfl, rfl⟩ ml_X12_94 rfl ⟨Nat.le_of_ble_eq_true rfl, Nat.le_of_ble_eq_true rfl⟩ (Nat.le_of_ble_eq_true rfl) ⟨Nat.le_refl _, Nat.le_refl _⟩ dX12_chance_21 rfl ?_
        refine ya_ifne 30 (by decide) dX12_chance_24 (fun c => ?_) (fun c => ?_)
        · replace h := ya_itef h c
          refine ya_aload_n 0 rfl dX12_chance_30 ?_
          refine ya_iload_n 1 rfl dX12_chance_31 ?_
          refine ya_iconst 0 (by decide) dX12_chance_32 ?_
          obtain ⟨x33, e33, h⟩ := ya_ob h
          refine ya_callVi (S := []) (c_X12_of hG e33) m_X12_of ⟨rfl, rfl⟩ ml_X12_260 rfl ⟨Nat.le_of_ble_eq_true rfl, Nat.le_of_ble_eq_true rfl⟩ (Nat.le_of_ble_eq_true rfl) (hG.lt0 83 (by decide)) (hG.o0 83 rfl) (by decide) rfl rfl ⟨Nat.le_refl _, Nat.le_refl _⟩ dX12_chance_33 rfl ?_
          refine ya_istore [(4, .int x33), (0, .ref (X.2.1 + 83)), (1, .int v1), (2, .int v2), (3, .int v3)] (by decide) rfl dX12_chance_36 ?_
          refine ya_aload_n 1 rfl dX12_chance_38 ?_
          refine ya_iload_n 2 rfl dX12_chance_39 ?_
          refine ya_iload 0 rfl dX12_chance_40 ?_
          refine ya_iload_n 3 rfl dX12_chance_42 ?_
          obtain ⟨x43, e43, h⟩ := ya_ob h
          refine ya_callVi (S := []) (c_X12_wantsOn hG e43) m_X12_wantsOn ⟨rfl, rfl⟩ ml_X12_266 rfl ⟨Nat.le_of_ble_eq_true rfl, Nat.le_of_ble_eq_true rfl⟩ (Nat.le_of_ble_eq_true rfl) (hG.lt0 83 (by decide)) (hG.o0 83 rfl) (by decide) rfl rfl ⟨Nat.le_refl _, Nat.le_refl _⟩ dX12_chance_43 rfl ?_
          refine ya_ifne 51 (by decide) dX12_chance_46 (fun c => ?_) (fun c => ?_)
          · replace h := ya_itef h c
            refine ya_aload_n 1 rfl dX12_chance_51 ?_
            refine ya_lconst 1 rfl dX12_chance_52 ?_
            obtain ⟨d53, e53, h⟩ := ya_ob h
            refine ya_callVv (S := []) (c_X12_runs hG e53) m_X12_runs ⟨rfl, rfl⟩ ml_X12_311 rfl ⟨Nat.le_of_ble_eq_true rfl, Nat.le_of_ble_eq_true rfl⟩ (Nat.le_of_ble_eq_true rfl) (hG.lt0 83 (by decide)) (hG.o0 83 rfl) (by decide) rfl rfl ⟨Nat.le_refl _, Nat.le_refl _⟩ dX12_chance_53 rfl ?_
            refine ya_aload_n 1 rfl dX12_chance_56 ?_
            refine ya_getR fo_X12_37 (hG.o0 83 rfl) (hG.lt0 83 (by decide)) (hG.l0 89 rfl) dX12_chance_57 ?_
            refine ya_iload 0 rfl dX12_chance_60 ?_
            refine ya_iload_n 3 rfl dX12_chance_62 ?_
            obtain ⟨x63, e63, h⟩ := ya_ob h
            refine ya_callSi (S := [.ref (X.2.1 + 91)]) (c_X12_at hG e63) m_X12_at ⟨rfl, rfl⟩ ml_X12_105 rfl ⟨Nat.le_of_ble_eq_true rfl, Nat.le_of_ble_eq_true rfl⟩ (Nat.le_of_ble_eq_true rfl) ⟨Nat.le_refl _, Nat.le_refl _⟩ dX12_chance_63 rfl ?_
            refine ya_iald (hG.s0 91 rfl) (hG.lt0 91 (by decide)) dX12_chance_66 h (fun x66 h => ?_)
            refine ya_istore [(5, .int x66), (4, .int x33), (0, .ref (X.2.1 + 83)), (1, .int v1), (2, .int v2), (3, .int v3)] (by decide) rfl dX12_chance_67 ?_
            refine ya_aload_n 2 rfl dX12_chance_69 ?_
            refine ya_iload 1 rfl dX12_chance_70 ?_
            refine ya_iload_n 4 rfl dX12_chance_72 ?_
            refine ya_iconst 0 (by decide) dX12_chance_73 ?_
            obtain ⟨x74, d74, e74, h⟩ := ya_ob2 h
            refine ya_callVi (S := []) (c_X12_standIn hG e74) m_X12_standIn ⟨rfl, rfl⟩ ml_X12_294 rfl ⟨Nat.le_of_ble_eq_true rfl, Nat.le_of_ble_eq_true rfl⟩ (Nat.le_of_ble_eq_true rfl) (hG.lt0 83 (by decide)) (hG.o0 83 rfl) (by decide) rfl rfl ⟨Nat.le_refl _, Nat.le_refl _⟩ dX12_chance_74 rfl ?_
            refine ya_istore [(6, .int x74), (5, .int x66), (4, .int x33), (0, .ref (X.2.1 + 83)), (1, .int v1), (2, .int v2), (3, .int v3)] (by decide) rfl dX12_chance_77 ?_
            refine ya_aload_n 3 rfl dX12_chance_79 ?_
            refine ya_iload 2 rfl dX12_chance_80 ?_
            refine ya_iload_n 5 rfl dX12_chance_82 ?_
            obtain ⟨x83, e83, h⟩ := ya_ob h
            refine ya_callVi (S := []) (c_X12_askedOf hG e83) m_X12_askedOf ⟨rfl, rfl⟩ ml_X12_288 rfl ⟨Nat.le_of_ble_eq_true rfl, Nat.le_of_ble_eq_true rfl⟩ (Nat.le_of_ble_eq_true rfl) (hG.lt0 83 (by decide)) (hG.o0 83 rfl) (by decide) rfl rfl ⟨Nat.le_refl _, Nat.le_refl _⟩ dX12_chance_83 rfl ?_
            refine ya_iload 1 rfl dX12_chance_86 ?_
            refine ya_j1_s h (fun t0_108 => ya_E X Y_X12_chance (ya_M X (some (.int rr.1), G, rr.2) 0 0) 108 [(3, .int v3), (6, .int x74)] [.int t0_108] G d74 0 0) (fun t0_108 h => ?_) (fun k108 hk108 h => ?_)
            · refine ya_istore [(7, .int t0_108), (3, .int v3), (6, .int x74)] (by decide) rfl dX12_chance_108 ?_
              refine ya_iload 0 rfl dX12_chance_110 ?_
              refine ya_iload 2 rfl dX12_chance_112 ?_
              obtain ⟨x114, e114, h⟩ := ya_ob h
              refine ya_callSi (S := [.int t0_108]) (c_X12_factorial hG e114) m_X12_factorial ⟨rfl, rfl⟩ ml_X12_405 rfl ⟨Nat.le_of_ble_eq_true rfl, Nat.le_of_ble_eq_true rfl⟩ (Nat.le_of_ble_eq_true rfl) ⟨Nat.le_refl _, Nat.le_refl _⟩ dX12_chance_114 rfl ?_
              obtain ⟨x117, e117, h⟩ := ya_ob h
              refine ya_callSi (S := []) (c_X12_divisor hG e117) m_X12_divisor ⟨rfl, rfl⟩ ml_X12_411 rfl ⟨Nat.le_of_ble_eq_true rfl, Nat.le_of_ble_eq_true rfl⟩ (Nat.le_of_ble_eq_true rfl) ⟨Nat.le_refl _, Nat.le_refl _⟩ dX12_chance_117 rfl ?_
              refine ya_istore [(8, .int x117), (7, .int t0_108), (3, .int v3), (6, .int x74)] (by decide) rfl dX12_chance_120 ?_
              refine ya_iload_n 2 rfl dX12_chance_122 ?_
              refine ya_j1_s h (fun t0_136 => ya_E X Y_X12_chance (ya_M X (some (.int rr.1), G, rr.2) 0 0) 136 [(8, .int x117)] [.int t0_136] G d74 0 0) (fun t0_136 h => ?_) (fun k136 hk136 h => ?_)
              · refine ya_iload 0 rfl dX12_chance_136 ?_
                refine ya_idivb dX12_chance_138 h (fun x138 h => ?_)
                cases h
                exact ya_iret rfl rfl rfl rfl rfl (Nat.le_refl _) dX12_chance_139
              · refine ya_ifne 131 (by decide) dX12_chance_123 (fun c => ?_) (fun c => ?_)
                · replace h := ya_itef h c
                  refine ya_iload 3 rfl dX12_chance_131 ?_
                  obtain ⟨x133, e133, h⟩ := ya_ob h
                  refine ya_callSi (S := []) (c_X12_factorial hG e133) m_X12_factorial ⟨rfl, rfl⟩ ml_X12_405 rfl ⟨Nat.le_of_ble_eq_true rfl, Nat.le_of_ble_eq_true rfl⟩ (Nat.le_of_ble_eq_true rfl) ⟨Nat.le_refl _, Nat.le_refl _⟩ dX12_chance_133 rfl ?_
                  refine ya_sub [(8, .int x117)] [0] rfl ?_
                  exact hk136 _ h
                · replace h := ya_itet h c
                  refine ya_iload 1 rfl dX12_chance_126 ?_
                  refine ya_goto 136 (by decide) dX12_chance_128 ?_
                  refine ya_sub [(8, .int x117)] [0] rfl ?_
                  exact hk136 _ h
            · refine ya_icmp_gt 99 (by decide) dX12_chance_88 (fun c => ?_) (fun c => ?_)
              · replace h := ya_itet h c
                refine ya_aload_n 3 rfl dX12_chance_99 ?_
                refine ya_iload_n 4 rfl dX12_chance_100 ?_
                refine ya_iload 0 rfl dX12_chance_101 ?_
                refine ya_iload 1 rfl dX12_chance_103 ?_
                obtain ⟨x105, e105, h⟩ := ya_ob h
                refine ya_callVi (S := []) (c_X12_orders hG e105) m_X12_orders ⟨rfl, rfl⟩ ml_X12_408 rfl ⟨Nat.le_of_ble_eq_true rfl, Nat.le_of_ble_eq_true rfl⟩ (Nat.le_of_ble_eq_true rfl) (hG.lt0 83 (by decide)) (hG.o0 83 rfl) (by decide) rfl rfl ⟨Nat.le_refl _, Nat.le_refl _⟩ dX12_chance_105 rfl ?_
                refine ya_sub [(3, .int v3), (6, .int x74)] [6, 0] rfl ?_
                exact hk108 _ h
              · replace h := ya_itef h c
                refine ya_iload 0 rfl dX12_chance_91 ?_
                obtain ⟨x93, e93, h⟩ := ya_ob h
                refine ya_callSi (S := []) (c_X12_factorial hG e93) m_X12_factorial ⟨rfl, rfl⟩ ml_X12_405 rfl ⟨Nat.le_of_ble_eq_true rfl, Nat.le_of_ble_eq_true rfl⟩ (Nat.le_of_ble_eq_true rfl) ⟨Nat.le_refl _, Nat.le_refl _⟩ dX12_chance_93 rfl ?_
                refine ya_goto 108 (by decide) dX12_chance_96 ?_
                refine ya_sub [(3, .int v3), (6, .int x74)] [6, 0] rfl ?_
                exact hk108 _ h
          · replace h := ya_itet h c
            refine ya_iload_n 4 rfl dX12_chance_49 ?_
            cases h
            exact ya_iret rfl rfl rfl rfl rfl (Nat.le_refl _) dX12_chance_50
        · replace h := ya_itet h c
          refine ya_sub [] [] rfl ?_
          exact hk27  h
set_option maxRecDepth 20000 in
theorem c_X12_isSeed {X : ya_X} {G : ya_G} {v0 : Int32} {d : ya_D} {rr : Int32} (hG : ya_Bk ya_sh ya_ln G 0) (h : f_X12_isSeed v0 = some rr) : ya_Ct X yX12_isSeed Y_X12_isSeed [.int v0] G d (some (.int rr), G, d) := by
  refine ya_ct (by decide +kernel) rfl rfl (Nat.le_of_ble_eq_true rfl) ?_
  unfold f_X12_isSeed at h
  show ya_E X Y_X12_isSeed (ya_M X (some (.int rr), G, d) 0 0) 0 [(0, .int v0)] [] G d 0 0
  refine ya_iload_n 0 rfl dX12_isSeed_0 ?_
  refine ya_i2l dX12_isSeed_1 ?_
  refine ya_lconst 0 rfl dX12_isSeed_2 ?_
  refine ya_ldc2 2000000000 kc_X12_414 dX12_isSeed_3 ?_
  obtain ⟨x6, e6, h⟩ := ya_ob h
  refine ya_callSi (S := []) (c_X12_in hG e6) m_X12_in ⟨rfl, rfl⟩ ml_X12_94 rfl ⟨Nat.le_of_ble_eq_true rfl, Nat.le_of_ble_eq_true rfl⟩ (Nat.le_of_ble_eq_true rfl) ⟨Nat.le_refl _, Nat.le_refl _⟩ dX12_isSeed_6 rfl ?_
  refine ya_zretb dX12_isSeed_9 h (fun hz h => ?_)
  cases h
  exact ya_zret .boolean rfl rfl rfl rfl hz rfl (Nat.le_refl _) dX12_isSeed_9
set_option maxRecDepth 20000 in
theorem c_X12_lots {X : ya_X} {G : ya_G} {v1 : Int32} {v2 : Int32} {d : ya_D} {rr : (Int32 × ya_D)} (hG : ya_Bk ya_sh ya_ln G 0) (h : f_X12_lots v1 v2 d = some rr) : ya_Ct X yX12_lots Y_X12_lots [.ref (X.2.1 + 83), .int v1, .int v2] G d (some (.int rr.1), G, rr.2) := by
  refine ya_ct (by decide +kernel) rfl rfl (Nat.le_of_ble_eq_true rfl) ?_
  unfold f_X12_lots at h
  show ya_E X Y_X12_lots (ya_M X (some (.int rr.1), G, rr.2) 0 0) 0 [(0, .ref (X.2.1 + 83)), (1, .int v1), (2, .int v2)] [] G d 0 0
  refine ya_iload_n 1 rfl dX12_lots_0 ?_
  obtain ⟨x1, e1, h⟩ := ya_ob h
  refine ya_callSi (S := []) (c_X12_isSeed hG e1) m_X12_isSeed ⟨rfl, rfl⟩ ml_X12_416 rfl ⟨Nat.le_of_ble_eq_true rfl, Nat.le_of_ble_eq_true rfl⟩ (Nat.le_of_ble_eq_true rfl) ⟨Nat.le_refl _, Nat.le_refl _⟩ dX12_lots_1 rfl ?_
  refine ya_j0_s h (ya_E X Y_X12_lots (ya_M X (some (.int rr.1), G, rr.2) 0 0) 15 [] [] G d 0 0) (fun h => ?_) (fun k15 hk15 h => ?_)
  · refine ya_bipush (-2) (by decide) dX12_lots_15 ?_
    cases h
    exact ya_iret rfl rfl rfl rfl rfl (Nat.le_refl _) dX12_lots_17
  · refine ya_ifeq 15 (by decide) dX12_lots_4 (fun c => ?_) (fun c => ?_)
    · replace h := ya_itet h c
      refine ya_sub [] [] rfl ?_
      exact hk15  h
    · replace h := ya_itef h c
      refine ya_aload_n 0 rfl dX12_lots_7 ?_
      refine ya_iload_n 2 rfl dX12_lots_8 ?_
      obtain ⟨x9, e9, h⟩ := ya_ob h
      refine ya_callVi (S := []) (c_X12_isBuyer hG e9) m_X12_isBuyer ⟨rfl, rfl⟩ ml_X12_327 rfl ⟨Nat.le_of_ble_eq_true rfl, Nat.le_of_ble_eq_true rfl⟩ (Nat.le_of_ble_eq_true rfl) (hG.lt0 83 (by decide)) (hG.o0 83 rfl) (by decide) rfl rfl ⟨Nat.le_refl _, Nat.le_refl _⟩ dX12_lots_9 rfl ?_
      refine ya_ifne 18 (by decide) dX12_lots_12 (fun c => ?_) (fun c => ?_)
      · replace h := ya_itef h c
        refine ya_aload_n 0 rfl dX12_lots_18 ?_
        refine ya_iload_n 1 rfl dX12_lots_19 ?_
        refine ya_i2l dX12_lots_20 ?_
        obtain ⟨d21, e21, h⟩ := ya_ob h
        refine ya_callVv (S := []) (c_X12_runs hG e21) m_X12_runs ⟨rfl, rfl⟩ ml_X12_311 rfl ⟨Nat.le_of_ble_eq_true rfl, Nat.le_of_ble_eq_true rfl⟩ (Nat.le_of_ble_eq_true rfl) (hG.lt0 83 (by decide)) (hG.o0 83 rfl) (by decide) rfl rfl ⟨Nat.le_refl _, Nat.le_refl _⟩ dX12_lots_21 rfl ?_
        refine ya_aload_n 0 rfl dX12_lots_24 ?_
        refine ya_getR fo_X12_61 (hG.o0 83 rfl) (hG.lt0 83 (by decide)) (hG.l0 97 rfl) dX12_lots_25 ?_
        refine ya_iload_n 2 rfl dX12_lots_28 ?_
        refine ya_iald (hG.s0 99 rfl) (hG.lt0 99 (by decide)) dX12_lots_29 h (fun x29 h => ?_)
        cases h
        exact ya_iret rfl rfl rfl rfl rfl (Nat.le_refl _) dX12_lots_30
      · replace h := ya_itet h c
        refine ya_sub [] [] rfl ?_
        exact hk15  h
set_option maxRecDepth 20000 in
theorem w_X12_years_L36 {X : ya_X} {G : ya_G} {v1 : Int32} {v2 : Int32} {v3 : Int32} {rr : (Int32 × ya_D)} (hG : ya_Bk ya_sh ya_ln G 0) : ∀ (n : Nat) (v4 : Int32) (v5 : Int32) (d : ya_D), f_X12_years_L36 v1 v2 v3 n v4 v5 d = some rr → ya_E X Y_X12_years (ya_M X (some (.int rr.1), G, rr.2) 0 0) 36 [(0, .ref (X.2.1 + 83)), (1, .int v1), (2, .int v2), (3, .int v3), (4, .int v4), (5, .int v5)] [] G d 0 0 := by
  intro n
  induction n with
  | zero => intro v4 v5 d h; cases h
  | succ n ih =>
    intro v4 v5 d h
    rw [f_X12_years_L36] at h
    refine ya_iload 5 rfl dX12_years_36 ?_
    refine ya_iload_n 2 rfl dX12_years_38 ?_
    refine ya_icmp_ge 69 (by decide) dX12_years_39 (fun c => ?_) (fun c => ?_)
    · replace h := ya_itet h c
      refine ya_iload 4 rfl dX12_years_69 ?_
      cases h
      exact ya_iret rfl rfl rfl rfl rfl (Nat.le_refl _) dX12_years_71
    · replace h := ya_itef h c
      refine ya_aload_n 0 rfl dX12_years_42 ?_
      refine ya_iload_n 1 rfl dX12_years_43 ?_
      refine ya_i2l dX12_years_44 ?_
      refine ya_iload 5 rfl dX12_years_45 ?_
      refine ya_i2l dX12_years_47 ?_
      refine ya_ladd dX12_years_48 ?_
      obtain ⟨d49, e49, h⟩ := ya_ob h
      refine ya_callVv (S := []) (c_X12_runs hG e49) m_X12_runs ⟨rfl, rfl⟩ ml_X12_311 rfl ⟨Nat.le_of_ble_eq_true rfl, Nat.le_of_ble_eq_true rfl⟩ (Nat.le_of_ble_eq_true rfl) (hG.lt0 83 (by decide)) (hG.o0 83 rfl) (by decide) rfl rfl ⟨Nat.le_refl _, Nat.le_refl _⟩ dX12_years_49 rfl ?_
      refine ya_iload 4 rfl dX12_years_52 ?_
      refine ya_aload_n 0 rfl dX12_years_54 ?_
      refine ya_getR fo_X12_61 (hG.o0 83 rfl) (hG.lt0 83 (by decide)) (hG.l0 97 rfl) dX12_years_55 ?_
      refine ya_iload_n 3 rfl dX12_years_58 ?_
      refine ya_iald (hG.s0 99 rfl) (hG.lt0 99 (by decide)) dX12_years_59 h (fun x59 h => ?_)
      refine ya_iadd dX12_years_60 ?_
      refine ya_istore [(4, .int (v4 + x59)), (0, .ref (X.2.1 + 83)), (1, .int v1), (2, .int v2), (3, .int v3), (5, .int v5)] (by decide) rfl dX12_years_61 ?_
      refine ya_iinc (v5 + 1) rfl 5 rfl [(5, .int (v5 + 1)), (4, .int (v4 + x59)), (0, .ref (X.2.1 + 83)), (1, .int v1), (2, .int v2), (3, .int v3)] (by decide) rfl dX12_years_63 ?_
      refine ya_goto 36 (by decide) dX12_years_66 ?_
      refine ya_sub [(0, .ref (X.2.1 + 83)), (1, .int v1), (2, .int v2), (3, .int v3), (4, .int (v4 + x59)), (5, .int (v5 + 1))] [2, 3, 4, 5, 1, 0] rfl ?_
      exact ih _ _ _ h
set_option maxRecDepth 20000 in
theorem c_X12_years {X : ya_X} {G : ya_G} {v1 : Int32} {v2 : Int32} {v3 : Int32} {d : ya_D} {rr : (Int32 × ya_D)} (hG : ya_Bk ya_sh ya_ln G 0) (h : f_X12_years v1 v2 v3 d = some rr) : ya_Ct X yX12_years Y_X12_years [.ref (X.2.1 + 83), .int v1, .int v2, .int v3] G d (some (.int rr.1), G, rr.2) := by
  refine ya_ct (by decide +kernel) rfl rfl (Nat.le_of_ble_eq_true rfl) ?_
  unfold f_X12_years at h
  show ya_E X Y_X12_years (ya_M X (some (.int rr.1), G, rr.2) 0 0) 0 [(0, .ref (X.2.1 + 83)), (1, .int v1), (2, .int v2), (3, .int v3)] [] G d 0 0
  refine ya_iload_n 1 rfl dX12_years_0 ?_
  obtain ⟨x1, e1, h⟩ := ya_ob h
  refine ya_callSi (S := []) (c_X12_isSeed hG e1) m_X12_isSeed ⟨rfl, rfl⟩ ml_X12_416 rfl ⟨Nat.le_of_ble_eq_true rfl, Nat.le_of_ble_eq_true rfl⟩ (Nat.le_of_ble_eq_true rfl) ⟨Nat.le_refl _, Nat.le_refl _⟩ dX12_years_1 rfl ?_
  refine ya_j0_s h (ya_E X Y_X12_years (ya_M X (some (.int rr.1), G, rr.2) 0 0) 27 [] [] G d 0 0) (fun h => ?_) (fun k27 hk27 h => ?_)
  · refine ya_bipush (-2) (by decide) dX12_years_27 ?_
    cases h
    exact ya_iret rfl rfl rfl rfl rfl (Nat.le_refl _) dX12_years_29
  · refine ya_ifeq 27 (by decide) dX12_years_4 (fun c => ?_) (fun c => ?_)
    · replace h := ya_itet h c
      refine ya_sub [] [] rfl ?_
      exact hk27  h
    · replace h := ya_itef h c
      refine ya_iload_n 2 rfl dX12_years_7 ?_
      refine ya_i2l dX12_years_8 ?_
      refine ya_lconst 1 rfl dX12_years_9 ?_
      refine ya_ldc2 20 kc_X12_419 dX12_years_10 ?_
      obtain ⟨x13, e13, h⟩ := ya_ob h
      refine ya_callSi (S := []) (c_X12_in hG e13) m_X12_in ⟨rfl, rfl⟩ ml_X12_94 rfl ⟨Nat.le_of_ble_eq_true rfl, Nat.le_of_ble_eq_true rfl⟩ (Nat.le_of_ble_eq_true rfl) ⟨Nat.le_refl _, Nat.le_refl _⟩ dX12_years_13 rfl ?_
      refine ya_ifeq 27 (by decide) dX12_years_16 (fun c => ?_) (fun c => ?_)
      · replace h := ya_itet h c
        refine ya_sub [] [] rfl ?_
        exact hk27  h
      · replace h := ya_itef h c
        refine ya_aload_n 0 rfl dX12_years_19 ?_
        refine ya_iload_n 3 rfl dX12_years_20 ?_
        obtain ⟨x21, e21, h⟩ := ya_ob h
        refine ya_callVi (S := []) (c_X12_isBuyer hG e21) m_X12_isBuyer ⟨rfl, rfl⟩ ml_X12_327 rfl ⟨Nat.le_of_ble_eq_true rfl, Nat.le_of_ble_eq_true rfl⟩ (Nat.le_of_ble_eq_true rfl) (hG.lt0 83 (by decide)) (hG.o0 83 rfl) (by decide) rfl rfl ⟨Nat.le_refl _, Nat.le_refl _⟩ dX12_years_21 rfl ?_
        refine ya_ifne 30 (by decide) dX12_years_24 (fun c => ?_) (fun c => ?_)
        · replace h := ya_itef h c
          refine ya_iconst 0 (by decide) dX12_years_30 ?_
          refine ya_istore [(4, .int 0), (0, .ref (X.2.1 + 83)), (1, .int v1), (2, .int v2), (3, .int v3)] (by decide) rfl dX12_years_31 ?_
          refine ya_iconst 0 (by decide) dX12_years_33 ?_
          refine ya_istore [(5, .int 0), (4, .int 0), (0, .ref (X.2.1 + 83)), (1, .int v1), (2, .int v2), (3, .int v3)] (by decide) rfl dX12_years_34 ?_
          refine ya_sub [(0, .ref (X.2.1 + 83)), (1, .int v1), (2, .int v2), (3, .int v3), (4, .int 0), (5, .int 0)] [2, 3, 4, 5, 1, 0] rfl ?_
          refine w_X12_years_L36 hG  ya_F _ _ _ h
        · replace h := ya_itet h c
          refine ya_sub [] [] rfl ?_
          exact hk27  h
set_option maxRecDepth 20000 in
theorem w_X12_count_L106 {X : ya_X} {G : ya_G} {d : ya_D} {rr : Int32} (hG : ya_Bk ya_sh ya_ln G 0) : ∀ (n : Nat) (v2 : Int32) (v3 : Int32), f_X12_count_L106 d n v2 v3 = some rr → ya_E X Y_X12_count (ya_M X (some (.int rr), G, d) 0 0) 106 [(0, .ref (X.2.1 + 83)), (2, .int v2), (3, .int v3)] [] G d 0 0 := by
  intro n
  induction n with
  | zero => intro v2 v3 h; cases h
  | succ n ih =>
    intro v2 v3 h
    rw [f_X12_count_L106] at h
    refine ya_iload_n 2 rfl dX12_count_106 ?_
    refine ya_iconst 4 (by decide) dX12_count_107 ?_
    refine ya_icmp_ge 135 (by decide) dX12_count_108 (fun c => ?_) (fun c => ?_)
    · replace h := ya_itet h c
      refine ya_iload_n 1 rfl dX12_count_135 ?_
      cases h
      exact ya_iret rfl rfl rfl rfl rfl (Nat.le_refl _) dX12_count_136
    · replace h := ya_itef h c
      refine ya_iload_n 1 rfl dX12_count_111 ?_
      refine ya_aload_n 0 rfl dX12_count_112 ?_
      refine ya_getR fo_X12_76 (hG.o0 83 rfl) (hG.lt0 83 (by decide)) (hG.l0 102 rfl) dX12_count_113 ?_
      refine ya_iload_n 2 rfl dX12_count_116 ?_
      refine ya_iald (hG.s0 104 rfl) (hG.lt0 104 (by decide)) dX12_count_117 h (fun x117 h => ?_)
      refine ya_iconst (-1) (by decide) dX12_count_118 ?_
      refine ya_j1_s h (fun t0_127 => ya_E X Y_X12_count (ya_M X (some (.int rr), G, d) 0 0) 127 [(0, .ref (X.2.1 + 83)), (3, .int v3)] [.int t0_127, .int v2] G d 0 0) (fun t0_127 h => ?_) (fun k127 hk127 h => ?_)
      · refine ya_iadd dX12_count_127 ?_
        refine ya_istore_n [(2, .int (v2 + t0_127)), (0, .ref (X.2.1 + 83)), (3, .int v3)] (by decide) rfl dX12_count_128 ?_
        refine ya_iinc (v3 + 1) rfl 2 rfl [(3, .int (v3 + 1)), (2, .int (v2 + t0_127)), (0, .ref (X.2.1 + 83))] (by decide) rfl dX12_count_129 ?_
        refine ya_goto 106 (by decide) dX12_count_132 ?_
        refine ya_sub [(0, .ref (X.2.1 + 83)), (2, .int (v2 + t0_127)), (3, .int (v3 + 1))] [2, 1, 0] rfl ?_
        exact ih _ _ h
      · refine ya_icmp_ne 126 (by decide) dX12_count_119 (fun c => ?_) (fun c => ?_)
        · replace h := ya_itef h c
          refine ya_iconst 1 (by decide) dX12_count_126 ?_
          refine ya_sub [(0, .ref (X.2.1 + 83)), (3, .int v3)] [0, 2] rfl ?_
          exact hk127 _ h
        · replace h := ya_itet h c
          refine ya_iconst 0 (by decide) dX12_count_122 ?_
          refine ya_goto 127 (by decide) dX12_count_123 ?_
          refine ya_sub [(0, .ref (X.2.1 + 83)), (3, .int v3)] [0, 2] rfl ?_
          exact hk127 _ h
set_option maxRecDepth 20000 in
theorem c_X12_count {X : ya_X} {G : ya_G} {v1 : Int32} {d : ya_D} {rr : Int32} (hG : ya_Bk ya_sh ya_ln G 0) (h : f_X12_count v1 d = some rr) : ya_Ct X yX12_count Y_X12_count [.ref (X.2.1 + 83), .int v1] G d (some (.int rr), G, d) := by
  refine ya_ct (by decide +kernel) rfl rfl (Nat.le_of_ble_eq_true rfl) ?_
  unfold f_X12_count at h
  show ya_E X Y_X12_count (ya_M X (some (.int rr), G, d) 0 0) 0 [(0, .ref (X.2.1 + 83)), (1, .int v1)] [] G d 0 0
  refine ya_iconst 0 (by decide) dX12_count_0 ?_
  refine ya_istore_n [(2, .int 0), (0, .ref (X.2.1 + 83)), (1, .int v1)] (by decide) rfl dX12_count_1 ?_
  refine ya_iload_n 2 rfl dX12_count_2 ?_
  rcases ya_ite h with ⟨c3_0, h⟩ | ⟨n3_0, h⟩
  · refine ya_tswIn 0 52 c3_0 (by decide) (by decide) rfl (by decide) dX12_count_3 ?_
    refine ya_aload_n 1 rfl dX12_count_52 ?_
    refine ya_getR fo_X12_9 (hG.o0 83 rfl) (hG.lt0 83 (by decide)) (hG.l0 82 rfl) dX12_count_53 ?_
    refine ya_iconst 0 (by decide) dX12_count_56 ?_
    refine ya_iald (hG.s0 84 rfl) (hG.lt0 84 (by decide)) dX12_count_57 h (fun x57 h => ?_)
    cases h
    exact ya_iret rfl rfl rfl rfl rfl (Nat.le_refl _) dX12_count_58
  · rcases ya_ite h with ⟨c3_1, h⟩ | ⟨n3_1, h⟩
    · refine ya_tswIn 1 59 c3_1 (by decide) (by decide) rfl (by decide) dX12_count_3 ?_
      refine ya_aload_n 1 rfl dX12_count_59 ?_
      refine ya_getR fo_X12_9 (hG.o0 83 rfl) (hG.lt0 83 (by decide)) (hG.l0 82 rfl) dX12_count_60 ?_
      refine ya_iconst 1 (by decide) dX12_count_63 ?_
      refine ya_iald (hG.s0 84 rfl) (hG.lt0 84 (by decide)) dX12_count_64 h (fun x64 h => ?_)
      cases h
      exact ya_iret rfl rfl rfl rfl rfl (Nat.le_refl _) dX12_count_65
    · rcases ya_ite h with ⟨c3_2, h⟩ | ⟨n3_2, h⟩
      · refine ya_tswIn 2 66 c3_2 (by decide) (by decide) rfl (by decide) dX12_count_3 ?_
        refine ya_aload_n 1 rfl dX12_count_66 ?_
        refine ya_getR fo_X12_9 (hG.o0 83 rfl) (hG.lt0 83 (by decide)) (hG.l0 82 rfl) dX12_count_67 ?_
        refine ya_iconst 2 (by decide) dX12_count_70 ?_
        refine ya_iald (hG.s0 84 rfl) (hG.lt0 84 (by decide)) dX12_count_71 h (fun x71 h => ?_)
        cases h
        exact ya_iret rfl rfl rfl rfl rfl (Nat.le_refl _) dX12_count_72
      · rcases ya_ite h with ⟨c3_3, h⟩ | ⟨n3_3, h⟩
        · refine ya_tswIn 3 73 c3_3 (by decide) (by decide) rfl (by decide) dX12_count_3 ?_
          refine ya_aload_n 1 rfl dX12_count_73 ?_
          refine ya_getR fo_X12_9 (hG.o0 83 rfl) (hG.lt0 83 (by decide)) (hG.l0 82 rfl) dX12_count_74 ?_
          refine ya_iconst 3 (by decide) dX12_count_77 ?_
          refine ya_iald (hG.s0 84 rfl) (hG.lt0 84 (by decide)) dX12_count_78 h (fun x78 h => ?_)
          cases h
          exact ya_iret rfl rfl rfl rfl rfl (Nat.le_refl _) dX12_count_79
        · rcases ya_ite h with ⟨c3_4, h⟩ | ⟨n3_4, h⟩
          · refine ya_tswIn 4 80 c3_4 (by decide) (by decide) rfl (by decide) dX12_count_3 ?_
            refine ya_aload_n 1 rfl dX12_count_80 ?_
            refine ya_getR fo_X12_9 (hG.o0 83 rfl) (hG.lt0 83 (by decide)) (hG.l0 82 rfl) dX12_count_81 ?_
            refine ya_iconst 4 (by decide) dX12_count_84 ?_
            refine ya_iald (hG.s0 84 rfl) (hG.lt0 84 (by decide)) dX12_count_85 h (fun x85 h => ?_)
            cases h
            exact ya_iret rfl rfl rfl rfl rfl (Nat.le_refl _) dX12_count_86
          · rcases ya_ite h with ⟨c3_5, h⟩ | ⟨n3_5, h⟩
            · refine ya_tswIn 5 87 c3_5 (by decide) (by decide) rfl (by decide) dX12_count_3 ?_
              refine ya_aload_n 1 rfl dX12_count_87 ?_
              refine ya_getI fo_X12_112 (hG.o0 83 rfl) (hG.lt0 83 (by decide)) dX12_count_88 ?_
              cases h
              exact ya_iret rfl rfl rfl rfl rfl (Nat.le_refl _) dX12_count_91
            · rcases ya_ite h with ⟨c3_6, h⟩ | ⟨n3_6, h⟩
              · refine ya_tswIn 6 92 c3_6 (by decide) (by decide) rfl (by decide) dX12_count_3 ?_
                refine ya_aload_n 1 rfl dX12_count_92 ?_
                refine ya_getR fo_X12_9 (hG.o0 83 rfl) (hG.lt0 83 (by decide)) (hG.l0 82 rfl) dX12_count_93 ?_
                refine ya_iconst 5 (by decide) dX12_count_96 ?_
                refine ya_iald (hG.s0 84 rfl) (hG.lt0 84 (by decide)) dX12_count_97 h (fun x97 h => ?_)
                cases h
                exact ya_iret rfl rfl rfl rfl rfl (Nat.le_refl _) dX12_count_98
              · rcases ya_ite h with ⟨c3_7, h⟩ | ⟨n3_7, h⟩
                · refine ya_tswIn 7 99 c3_7 (by decide) (by decide) rfl (by decide) dX12_count_3 ?_
                  refine ya_aload_n 1 rfl dX12_count_99 ?_
                  obtain ⟨x100, e100, h⟩ := ya_ob h
                  refine ya_callVi (S := []) (c_X12_markedMany hG e100) m_X12_markedMany ⟨rfl, rfl⟩ ml_X12_367 rfl ⟨Nat.le_of_ble_eq_true rfl, Nat.le_of_ble_eq_true rfl⟩ (Nat.le_of_ble_eq_true rfl) (hG.lt0 83 (by decide)) (hG.o0 83 rfl) (by decide) rfl rfl ⟨Nat.le_refl _, Nat.le_refl _⟩ dX12_count_100 rfl ?_
                  cases h
                  exact ya_iret rfl rfl rfl rfl rfl (Nat.le_refl _) dX12_count_103
                · rcases ya_ite h with ⟨c3_8, h⟩ | ⟨n3_8, h⟩
                  · refine ya_tswIn 8 104 c3_8 (by decide) (by decide) rfl (by decide) dX12_count_3 ?_
                    refine ya_iconst 0 (by decide) dX12_count_104 ?_
                    refine ya_istore_n [(3, .int 0), (2, .int 0), (0, .ref (X.2.1 + 83)), (1, .int v1)] (by decide) rfl dX12_count_105 ?_
                    refine ya_sub [(0, .ref (X.2.1 + 83)), (2, .int 0), (3, .int 0)] [2, 1, 0] rfl ?_
                    refine w_X12_count_L106 hG  ya_F _ _ h
                  · refine ya_tswOut 137 (ya_out [0, 1, 2, 3, 4, 5, 6, 7, 8] (List.forall_mem_cons.mpr ⟨n3_0, (List.forall_mem_cons.mpr ⟨n3_1, (List.forall_mem_cons.mpr ⟨n3_2, (List.forall_mem_cons.mpr ⟨n3_3, (List.forall_mem_cons.mpr ⟨n3_4, (List.forall_mem_cons.mpr ⟨n3_5, (List.forall_mem_cons.mpr ⟨n3_6, (List.forall_mem_cons.mpr ⟨n3_7, (List.forall_mem_cons.mpr ⟨n3_8, (fun _ hq => absurd hq List.not_mem_nil)⟩)⟩)⟩)⟩)⟩)⟩)⟩)⟩)⟩) (by decide)) (by decide) dX12_count_3 ?_
                    refine ya_iconst (-1) (by decide) dX12_count_137 ?_
                    cases h
                    exact ya_iret rfl rfl rfl rfl rfl (Nat.le_refl _) dX12_count_138
set_option maxRecDepth 20000 in
theorem c_X12_cut {X : ya_X} {G : ya_G} {v0 : Int64} {v2 : Int32} {d : ya_D} {rr : Int64} (hG : ya_Bk ya_sh ya_ln G 0) (h : f_X12_cut v0 v2 = some rr) : ya_Ct X yX12_cut Y_X12_cut [.long v0, .int v2] G d (some (.long rr), G, d) := by
  refine ya_ct (by decide +kernel) rfl rfl (Nat.le_of_ble_eq_true rfl) ?_
  unfold f_X12_cut at h
  show ya_E X Y_X12_cut (ya_M X (some (.long rr), G, d) 0 0) 0 [(0, .long v0), (2, .int v2)] [] G d 0 0
  refine ya_bipush 64 (by decide) dX12_cut_0 ?_
  refine ya_bipush 8 (by decide) dX12_cut_2 ?_
  refine ya_iload_n 1 rfl dX12_cut_4 ?_
  refine ya_ishl dX12_cut_5 ?_
  refine ya_isub dX12_cut_6 ?_
  refine ya_istore_n [(3, .int ((64 : Int32) - ((8 : Int32) <<< (v2 &&& 31)))), (0, .long v0), (2, .int v2)] (by decide) rfl dX12_cut_7 ?_
  refine ya_lload_n 1 rfl dX12_cut_8 ?_
  refine ya_iload_n 0 rfl dX12_cut_9 ?_
  refine ya_lshl dX12_cut_10 ?_
  refine ya_iload_n 0 rfl dX12_cut_11 ?_
  refine ya_lshr dX12_cut_12 ?_
  cases h
  exact ya_lret rfl rfl rfl rfl rfl (Nat.le_refl _) dX12_cut_13
set_option maxRecDepth 20000 in
theorem w_X12_row_L52 {X : ya_X} {G : ya_G} {v1 : Int32} {rr : (Int32 × ya_D)} (hG : ya_Bk ya_sh ya_ln G 0) : ∀ (n : Nat) (v4 : Int32) (d : ya_D), f_X12_row_L52 v1 n v4 d = some rr → ya_E X Y_X12_row (ya_M X (some (.int rr.1), G, rr.2) 0 0) 52 [(0, .ref (X.2.1 + 83)), (1, .int v1), (4, .int v4)] [] G d 0 0 := by
  intro n
  induction n with
  | zero => intro v4 d h; cases h
  | succ n ih =>
    intro v4 d h
    rw [f_X12_row_L52] at h
    refine ya_iload 2 rfl dX12_row_52 ?_
    refine ya_bipush 60 (by decide) dX12_row_54 ?_
    refine ya_icmp_ge 78 (by decide) dX12_row_56 (fun c => ?_) (fun c => ?_)
    · replace h := ya_itet h c
      refine ya_iconst 0 (by decide) dX12_row_78 ?_
      cases h
      exact ya_iret rfl rfl rfl rfl rfl (Nat.le_refl _) dX12_row_79
    · replace h := ya_itef h c
      refine ya_aload_n 0 rfl dX12_row_59 ?_
      refine ya_getR fo_X12_82 (hG.o0 83 rfl) (hG.lt0 83 (by decide)) (hG.l0 104 rfl) dX12_row_60 ?_
      refine ya_bipush 60 (by decide) dX12_row_63 ?_
      refine ya_iload_n 1 rfl dX12_row_65 ?_
      refine ya_imul dX12_row_66 ?_
      refine ya_iload 2 rfl dX12_row_67 ?_
      refine ya_iadd dX12_row_69 ?_
      refine ya_lconst 0 rfl dX12_row_70 ?_
      refine ya_last (hG.s0 106 rfl) (hG.lt0 106 (by decide)) dX12_row_71 h (fun d71 h => ?_)
      refine ya_iinc (v4 + 1) rfl 2 rfl [(4, .int (v4 + 1)), (0, .ref (X.2.1 + 83)), (1, .int v1)] (by decide) rfl dX12_row_72 ?_
      refine ya_goto 52 (by decide) dX12_row_75 ?_
      refine ya_sub [(0, .ref (X.2.1 + 83)), (1, .int v1), (4, .int (v4 + 1))] [1, 2, 0] rfl ?_
      exact ih _ _ h
set_option maxRecDepth 20000 in
theorem c_X12_row {X : ya_X} {G : ya_G} {v1 : Int32} {v2 : Int32} {v3 : Int32} {d : ya_D} {rr : (Int32 × ya_D)} (hG : ya_Bk ya_sh ya_ln G 0) (h : f_X12_row v1 v2 v3 d = some rr) : ya_Ct X yX12_row Y_X12_row [.ref (X.2.1 + 83), .int v1, .int v2, .int v3] G d (some (.int rr.1), G, rr.2) := by
  refine ya_ct (by decide +kernel) rfl rfl (Nat.le_of_ble_eq_true rfl) ?_
  unfold f_X12_row at h
  show ya_E X Y_X12_row (ya_M X (some (.int rr.1), G, rr.2) 0 0) 0 [(0, .ref (X.2.1 + 83)), (1, .int v1), (2, .int v2), (3, .int v3)] [] G d 0 0
  refine ya_iload_n 1 rfl dX12_row_0 ?_
  obtain ⟨x1, e1, h⟩ := ya_ob h
  refine ya_callSi (S := []) (c_X12_isSlot hG e1) m_X12_isSlot ⟨rfl, rfl⟩ ml_X12_380 rfl ⟨Nat.le_of_ble_eq_true rfl, Nat.le_of_ble_eq_true rfl⟩ (Nat.le_of_ble_eq_true rfl) ⟨Nat.le_refl _, Nat.le_refl _⟩ dX12_row_1 rfl ?_
  refine ya_j0_s h (ya_E X Y_X12_row (ya_M X (some (.int rr.1), G, rr.2) 0 0) 25 [] [] G d 0 0) (fun h => ?_) (fun k25 hk25 h => ?_)
  · refine ya_bipush (-2) (by decide) dX12_row_25 ?_
    cases h
    exact ya_iret rfl rfl rfl rfl rfl (Nat.le_refl _) dX12_row_27
  · refine ya_ifeq 25 (by decide) dX12_row_4 (fun c => ?_) (fun c => ?_)
    · replace h := ya_itet h c
      refine ya_sub [] [] rfl ?_
      exact hk25  h
    · replace h := ya_itef h c
      refine ya_iload_n 2 rfl dX12_row_7 ?_
      refine ya_i2l dX12_row_8 ?_
      refine ya_lconst 0 rfl dX12_row_9 ?_
      refine ya_ldc2 3 kc_X12_333 dX12_row_10 ?_
      obtain ⟨x13, e13, h⟩ := ya_ob h
      refine ya_callSi (S := []) (c_X12_in hG e13) m_X12_in ⟨rfl, rfl⟩ ml_X12_94 rfl ⟨Nat.le_of_ble_eq_true rfl, Nat.le_of_ble_eq_true rfl⟩ (Nat.le_of_ble_eq_true rfl) ⟨Nat.le_refl _, Nat.le_refl _⟩ dX12_row_13 rfl ?_
      refine ya_ifeq 25 (by decide) dX12_row_16 (fun c => ?_) (fun c => ?_)
      · replace h := ya_itet h c
        refine ya_sub [] [] rfl ?_
        exact hk25  h
      · replace h := ya_itef h c
        refine ya_iload_n 3 rfl dX12_row_19 ?_
        refine ya_bipush 60 (by decide) dX12_row_20 ?_
        refine ya_icmp_le 28 (by decide) dX12_row_22 (fun c => ?_) (fun c => ?_)
        · replace h := ya_itet h c
          refine ya_iload_n 3 rfl dX12_row_28 ?_
          refine ya_ifge 35 (by decide) dX12_row_29 (fun c => ?_) (fun c => ?_)
          · replace h := ya_itet h c
            refine ya_aload_n 0 rfl dX12_row_35 ?_
            refine ya_getR fo_X12_76 (hG.o0 83 rfl) (hG.lt0 83 (by decide)) (hG.l0 102 rfl) dX12_row_36 ?_
            refine ya_iload_n 1 rfl dX12_row_39 ?_
            refine ya_iload_n 3 rfl dX12_row_40 ?_
            refine ya_iast (hG.s0 104 rfl) (hG.lt0 104 (by decide)) dX12_row_41 h (fun d41 h => ?_)
            refine ya_aload_n 0 rfl dX12_row_42 ?_
            refine ya_getR fo_X12_79 (hG.o0 83 rfl) (hG.lt0 83 (by decide)) (hG.l0 103 rfl) dX12_row_43 ?_
            refine ya_iload_n 1 rfl dX12_row_46 ?_
            refine ya_iload_n 2 rfl dX12_row_47 ?_
            refine ya_iast (hG.s0 105 rfl) (hG.lt0 105 (by decide)) dX12_row_48 h (fun d48 h => ?_)
            refine ya_iconst 0 (by decide) dX12_row_49 ?_
            refine ya_istore [(4, .int 0), (0, .ref (X.2.1 + 83)), (1, .int v1), (2, .int v2), (3, .int v3)] (by decide) rfl dX12_row_50 ?_
            refine ya_sub [(0, .ref (X.2.1 + 83)), (1, .int v1), (4, .int 0)] [1, 2, 0] rfl ?_
            refine w_X12_row_L52 hG  ya_F _ _ h
          · replace h := ya_itef h c
            refine ya_bipush (-3) (by decide) dX12_row_32 ?_
            cases h
            exact ya_iret rfl rfl rfl rfl rfl (Nat.le_refl _) dX12_row_34
        · replace h := ya_itef h c
          refine ya_sub [] [] rfl ?_
          exact hk25  h
set_option maxRecDepth 20000 in
theorem c_X12_write {X : ya_X} {G : ya_G} {v1 : Int32} {v2 : Int32} {v3 : Int64} {d : ya_D} {rr : (Int32 × ya_D)} (hG : ya_Bk ya_sh ya_ln G 0) (h : f_X12_write v1 v2 v3 d = some rr) : ya_Ct X yX12_write Y_X12_write [.ref (X.2.1 + 83), .int v1, .int v2, .long v3] G d (some (.int rr.1), G, rr.2) := by
  refine ya_ct (by decide +kernel) rfl rfl (Nat.le_of_ble_eq_true rfl) ?_
  unfold f_X12_write at h
  show ya_E X Y_X12_write (ya_M X (some (.int rr.1), G, rr.2) 0 0) 0 [(0, .ref (X.2.1 + 83)), (1, .int v1), (2, .int v2), (3, .long v3)] [] G d 0 0
  refine ya_iload_n 1 rfl dX12_write_0 ?_
  obtain ⟨x1, e1, h⟩ := ya_ob h
  refine ya_callSi (S := []) (c_X12_isSlot hG e1) m_X12_isSlot ⟨rfl, rfl⟩ ml_X12_380 rfl ⟨Nat.le_of_ble_eq_true rfl, Nat.le_of_ble_eq_true rfl⟩ (Nat.le_of_ble_eq_true rfl) ⟨Nat.le_refl _, Nat.le_refl _⟩ dX12_write_1 rfl ?_
  refine ya_ifne 10 (by decide) dX12_write_4 (fun c => ?_) (fun c => ?_)
  · replace h := ya_itef h c
    refine ya_aload_n 0 rfl dX12_write_10 ?_
    refine ya_getR fo_X12_76 (hG.o0 83 rfl) (hG.lt0 83 (by decide)) (hG.l0 102 rfl) dX12_write_11 ?_
    refine ya_iload_n 1 rfl dX12_write_14 ?_
    refine ya_iald (hG.s0 104 rfl) (hG.lt0 104 (by decide)) dX12_write_15 h (fun x15 h => ?_)
    refine ya_iconst (-1) (by decide) dX12_write_16 ?_
    refine ya_icmp_ne 23 (by decide) dX12_write_17 (fun c => ?_) (fun c => ?_)
    · replace h := ya_itef h c
      refine ya_iload_n 2 rfl dX12_write_23 ?_
      refine ya_i2l dX12_write_24 ?_
      refine ya_lconst 0 rfl dX12_write_25 ?_
      refine ya_aload_n 0 rfl dX12_write_26 ?_
      refine ya_getR fo_X12_76 (hG.o0 83 rfl) (hG.lt0 83 (by decide)) (hG.l0 102 rfl) dX12_write_27 ?_
      refine ya_iload_n 1 rfl dX12_write_30 ?_
      refine ya_iald (hG.s0 104 rfl) (hG.lt0 104 (by decide)) dX12_write_31 h (fun x31 h => ?_)
      refine ya_iconst 1 (by decide) dX12_write_32 ?_
      refine ya_isub dX12_write_33 ?_
      refine ya_i2l dX12_write_34 ?_
      obtain ⟨x35, e35, h⟩ := ya_ob h
      refine ya_callSi (S := []) (c_X12_in hG e35) m_X12_in ⟨rfl, rfl⟩ ml_X12_94 rfl ⟨Nat.le_of_ble_eq_true rfl, Nat.le_of_ble_eq_true rfl⟩ (Nat.le_of_ble_eq_true rfl) ⟨Nat.le_refl _, Nat.le_refl _⟩ dX12_write_35 rfl ?_
      refine ya_ifne 44 (by decide) dX12_write_38 (fun c => ?_) (fun c => ?_)
      · replace h := ya_itef h c
        refine ya_aload_n 0 rfl dX12_write_44 ?_
        refine ya_getR fo_X12_82 (hG.o0 83 rfl) (hG.lt0 83 (by decide)) (hG.l0 104 rfl) dX12_write_45 ?_
        refine ya_bipush 60 (by decide) dX12_write_48 ?_
        refine ya_iload_n 1 rfl dX12_write_50 ?_
        refine ya_imul dX12_write_51 ?_
        refine ya_iload_n 2 rfl dX12_write_52 ?_
        refine ya_iadd dX12_write_53 ?_
        refine ya_lload_n 3 rfl dX12_write_54 ?_
        refine ya_aload_n 0 rfl dX12_write_55 ?_
        refine ya_getR fo_X12_79 (hG.o0 83 rfl) (hG.lt0 83 (by decide)) (hG.l0 103 rfl) dX12_write_56 ?_
        refine ya_iload_n 1 rfl dX12_write_59 ?_
        refine ya_iald (hG.s0 105 rfl) (hG.lt0 105 (by decide)) dX12_write_60 h (fun x60 h => ?_)
        obtain ⟨x61, e61, h⟩ := ya_ob h
        refine ya_callSl (S := [.int (((60 : Int32) * v1) + v2), .ref (X.2.1 + 106)]) (c_X12_cut hG e61) m_X12_cut ⟨rfl, rfl⟩ ml_X12_421 rfl ⟨Nat.le_of_ble_eq_true rfl, Nat.le_of_ble_eq_true rfl⟩ (Nat.le_of_ble_eq_true rfl) ⟨Nat.le_refl _, Nat.le_refl _⟩ dX12_write_61 rfl ?_
        refine ya_last (hG.s0 106 rfl) (hG.lt0 106 (by decide)) dX12_write_64 h (fun d64 h => ?_)
        refine ya_iconst 0 (by decide) dX12_write_65 ?_
        cases h
        exact ya_iret rfl rfl rfl rfl rfl (Nat.le_refl _) dX12_write_66
      · replace h := ya_itet h c
        refine ya_bipush (-7) (by decide) dX12_write_41 ?_
        cases h
        exact ya_iret rfl rfl rfl rfl rfl (Nat.le_refl _) dX12_write_43
    · replace h := ya_itet h c
      refine ya_bipush (-6) (by decide) dX12_write_20 ?_
      cases h
      exact ya_iret rfl rfl rfl rfl rfl (Nat.le_refl _) dX12_write_22
  · replace h := ya_itet h c
    refine ya_bipush (-2) (by decide) dX12_write_7 ?_
    cases h
    exact ya_iret rfl rfl rfl rfl rfl (Nat.le_refl _) dX12_write_9
set_option maxRecDepth 20000 in
theorem w_X12_paste_L113 {X : ya_X} {G : ya_G} {v1 : Int32} {v2 : Int32} {v3 : Int32} {v4 : Int32} {v5 : Int32} {rr : (Int32 × ya_D)} {e147 : ya_D → Option (Int32 × ya_D)} (hG : ya_Bk ya_sh ya_ln G 0) (he147 : ∀ (d : ya_D), e147 d = some rr → ya_E X Y_X12_paste (ya_M X (some (.int rr.1), G, rr.2) 0 0) 147 [(0, .ref (X.2.1 + 83)), (3, .int v3), (4, .int v4), (5, .int v5)] [] G d 0 0) : ∀ (n : Nat) (v6 : Int32) (d : ya_D), f_X12_paste_L113 v1 v2 v3 v4 v5 e147 n v6 d = some rr → ya_E X Y_X12_paste (ya_M X (some (.int rr.1), G, rr.2) 0 0) 113 [(0, .ref (X.2.1 + 83)), (1, .int v1), (2, .int v2), (3, .int v3), (4, .int v4), (5, .int v5), (6, .int v6)] [] G d 0 0 := by
  intro n
  induction n with
  | zero => intro v6 d h; cases h
  | succ n ih =>
    intro v6 d h
    rw [f_X12_paste_L113] at h
    refine ya_iload 6 rfl dX12_paste_113 ?_
    refine ya_iload 5 rfl dX12_paste_115 ?_
    refine ya_icmp_ge 147 (by decide) dX12_paste_117 (fun c => ?_) (fun c => ?_)
    · replace h := ya_itet h c
      refine ya_sub [(0, .ref (X.2.1 + 83)), (3, .int v3), (4, .int v4), (5, .int v5)] [0, 3, 4, 5] rfl ?_
      exact he147 _ h
    · replace h := ya_itef h c
      refine ya_aload_n 0 rfl dX12_paste_120 ?_
      refine ya_getR fo_X12_86 (hG.o0 83 rfl) (hG.lt0 83 (by decide)) (hG.l0 105 rfl) dX12_paste_121 ?_
      refine ya_iload 6 rfl dX12_paste_124 ?_
      refine ya_aload_n 0 rfl dX12_paste_126 ?_
      refine ya_getR fo_X12_82 (hG.o0 83 rfl) (hG.lt0 83 (by decide)) (hG.l0 104 rfl) dX12_paste_127 ?_
      refine ya_bipush 60 (by decide) dX12_paste_130 ?_
      refine ya_iload_n 1 rfl dX12_paste_132 ?_
      refine ya_imul dX12_paste_133 ?_
      refine ya_iload_n 2 rfl dX12_paste_134 ?_
      refine ya_iadd dX12_paste_135 ?_
      refine ya_iload 6 rfl dX12_paste_136 ?_
      refine ya_iadd dX12_paste_138 ?_
      refine ya_lald (hG.s0 106 rfl) (hG.lt0 106 (by decide)) dX12_paste_139 h (fun x139 h => ?_)
      refine ya_last (hG.s0 107 rfl) (hG.lt0 107 (by decide)) dX12_paste_140 h (fun d140 h => ?_)
      refine ya_iinc (v6 + 1) rfl 6 rfl [(6, .int (v6 + 1)), (0, .ref (X.2.1 + 83)), (1, .int v1), (2, .int v2), (3, .int v3), (4, .int v4), (5, .int v5)] (by decide) rfl dX12_paste_141 ?_
      refine ya_goto 113 (by decide) dX12_paste_144 ?_
      refine ya_sub [(0, .ref (X.2.1 + 83)), (1, .int v1), (2, .int v2), (3, .int v3), (4, .int v4), (5, .int v5), (6, .int (v6 + 1))] [1, 2, 3, 4, 5, 6, 0] rfl ?_
      exact ih _ _ h
set_option maxRecDepth 20000 in
theorem w_X12_paste_L150 {X : ya_X} {G : ya_G} {v3 : Int32} {v4 : Int32} {v5 : Int32} {rr : (Int32 × ya_D)} (hG : ya_Bk ya_sh ya_ln G 0) : ∀ (n : Nat) (v6 : Int32) (d : ya_D), f_X12_paste_L150 v3 v4 v5 n v6 d = some rr → ya_E X Y_X12_paste (ya_M X (some (.int rr.1), G, rr.2) 0 0) 150 [(0, .ref (X.2.1 + 83)), (3, .int v3), (4, .int v4), (5, .int v5), (6, .int v6)] [] G d 0 0 := by
  intro n
  induction n with
  | zero => intro v6 d h; cases h
  | succ n ih =>
    intro v6 d h
    rw [f_X12_paste_L150] at h
    refine ya_iload 4 rfl dX12_paste_150 ?_
    refine ya_iload 3 rfl dX12_paste_152 ?_
    refine ya_icmp_ge 185 (by decide) dX12_paste_154 (fun c => ?_) (fun c => ?_)
    · replace h := ya_itet h c
      refine ya_iconst 0 (by decide) dX12_paste_185 ?_
      cases h
      exact ya_iret rfl rfl rfl rfl rfl (Nat.le_refl _) dX12_paste_186
    · replace h := ya_itef h c
      refine ya_aload_n 0 rfl dX12_paste_157 ?_
      refine ya_getR fo_X12_82 (hG.o0 83 rfl) (hG.lt0 83 (by decide)) (hG.l0 104 rfl) dX12_paste_158 ?_
      refine ya_bipush 60 (by decide) dX12_paste_161 ?_
      refine ya_iload_n 1 rfl dX12_paste_163 ?_
      refine ya_imul dX12_paste_164 ?_
      refine ya_iload 2 rfl dX12_paste_165 ?_
      refine ya_iadd dX12_paste_167 ?_
      refine ya_iload 4 rfl dX12_paste_168 ?_
      refine ya_iadd dX12_paste_170 ?_
      refine ya_aload_n 0 rfl dX12_paste_171 ?_
      refine ya_getR fo_X12_86 (hG.o0 83 rfl) (hG.lt0 83 (by decide)) (hG.l0 105 rfl) dX12_paste_172 ?_
      refine ya_iload 4 rfl dX12_paste_175 ?_
      refine ya_lald (hG.s0 107 rfl) (hG.lt0 107 (by decide)) dX12_paste_177 h (fun x177 h => ?_)
      refine ya_last (hG.s0 106 rfl) (hG.lt0 106 (by decide)) dX12_paste_178 h (fun d178 h => ?_)
      refine ya_iinc (v6 + 1) rfl 4 rfl [(6, .int (v6 + 1)), (0, .ref (X.2.1 + 83)), (3, .int v3), (4, .int v4), (5, .int v5)] (by decide) rfl dX12_paste_179 ?_
      refine ya_goto 150 (by decide) dX12_paste_182 ?_
      refine ya_sub [(0, .ref (X.2.1 + 83)), (3, .int v3), (4, .int v4), (5, .int v5), (6, .int (v6 + 1))] [1, 2, 3, 4, 0] rfl ?_
      exact ih _ _ h
set_option maxRecDepth 20000 in
theorem c_X12_paste {X : ya_X} {G : ya_G} {v1 : Int32} {v2 : Int32} {v3 : Int32} {v4 : Int32} {v5 : Int32} {d : ya_D} {rr : (Int32 × ya_D)} (hG : ya_Bk ya_sh ya_ln G 0) (h : f_X12_paste v1 v2 v3 v4 v5 d = some rr) : ya_Ct X yX12_paste Y_X12_paste [.ref (X.2.1 + 83), .int v1, .int v2, .int v3, .int v4, .int v5] G d (some (.int rr.1), G, rr.2) := by
  refine ya_ct (by decide +kernel) rfl rfl (Nat.le_of_ble_eq_true rfl) ?_
  unfold f_X12_paste at h
  show ya_E X Y_X12_paste (ya_M X (some (.int rr.1), G, rr.2) 0 0) 0 [(0, .ref (X.2.1 + 83)), (1, .int v1), (2, .int v2), (3, .int v3), (4, .int v4), (5, .int v5)] [] G d 0 0
  refine ya_iload_n 1 rfl dX12_paste_0 ?_
  obtain ⟨x1, e1, h⟩ := ya_ob h
  refine ya_callSi (S := []) (c_X12_isSlot hG e1) m_X12_isSlot ⟨rfl, rfl⟩ ml_X12_380 rfl ⟨Nat.le_of_ble_eq_true rfl, Nat.le_of_ble_eq_true rfl⟩ (Nat.le_of_ble_eq_true rfl) ⟨Nat.le_refl _, Nat.le_refl _⟩ dX12_paste_1 rfl ?_
  refine ya_j0_s h (ya_E X Y_X12_paste (ya_M X (some (.int rr.1), G, rr.2) 0 0) 14 [] [] G d 0 0) (fun h => ?_) (fun k14 hk14 h => ?_)
  · refine ya_bipush (-2) (by decide) dX12_paste_14 ?_
    cases h
    exact ya_iret rfl rfl rfl rfl rfl (Nat.le_refl _) dX12_paste_16
  · refine ya_ifeq 14 (by decide) dX12_paste_4 (fun c => ?_) (fun c => ?_)
    · replace h := ya_itet h c
      refine ya_sub [] [] rfl ?_
      exact hk14  h
    · replace h := ya_itef h c
      refine ya_iload_n 3 rfl dX12_paste_7 ?_
      obtain ⟨x8, e8, h⟩ := ya_ob h
      refine ya_callSi (S := []) (c_X12_isSlot hG e8) m_X12_isSlot ⟨rfl, rfl⟩ ml_X12_380 rfl ⟨Nat.le_of_ble_eq_true rfl, Nat.le_of_ble_eq_true rfl⟩ (Nat.le_of_ble_eq_true rfl) ⟨Nat.le_refl _, Nat.le_refl _⟩ dX12_paste_8 rfl ?_
      refine ya_ifne 17 (by decide) dX12_paste_11 (fun c => ?_) (fun c => ?_)
      · replace h := ya_itef h c
        refine ya_aload_n 0 rfl dX12_paste_17 ?_
        refine ya_getR fo_X12_76 (hG.o0 83 rfl) (hG.lt0 83 (by decide)) (hG.l0 102 rfl) dX12_paste_18 ?_
        refine ya_iload_n 1 rfl dX12_paste_21 ?_
        refine ya_iald (hG.s0 104 rfl) (hG.lt0 104 (by decide)) dX12_paste_22 h (fun x22 h => ?_)
        refine ya_iconst (-1) (by decide) dX12_paste_23 ?_
        refine ya_j0_s h (ya_E X Y_X12_paste (ya_M X (some (.int rr.1), G, rr.2) 0 0) 37 [] [] G d 0 0) (fun h => ?_) (fun k37 hk37 h => ?_)
        · refine ya_bipush (-6) (by decide) dX12_paste_37 ?_
          cases h
          exact ya_iret rfl rfl rfl rfl rfl (Nat.le_refl _) dX12_paste_39
        · refine ya_icmp_eq 37 (by decide) dX12_paste_24 (fun c => ?_) (fun c => ?_)
          · replace h := ya_itet h c
            refine ya_sub [] [] rfl ?_
            exact hk37  h
          · replace h := ya_itef h c
            refine ya_aload_n 0 rfl dX12_paste_27 ?_
            refine ya_getR fo_X12_76 (hG.o0 83 rfl) (hG.lt0 83 (by decide)) (hG.l0 102 rfl) dX12_paste_28 ?_
            refine ya_iload_n 3 rfl dX12_paste_31 ?_
            refine ya_iald (hG.s0 104 rfl) (hG.lt0 104 (by decide)) dX12_paste_32 h (fun x32 h => ?_)
            refine ya_iconst (-1) (by decide) dX12_paste_33 ?_
            refine ya_icmp_ne 40 (by decide) dX12_paste_34 (fun c => ?_) (fun c => ?_)
            · replace h := ya_itef h c
              refine ya_aload_n 0 rfl dX12_paste_40 ?_
              refine ya_getR fo_X12_79 (hG.o0 83 rfl) (hG.lt0 83 (by decide)) (hG.l0 103 rfl) dX12_paste_41 ?_
              refine ya_iload_n 1 rfl dX12_paste_44 ?_
              refine ya_iald (hG.s0 105 rfl) (hG.lt0 105 (by decide)) dX12_paste_45 h (fun x45 h => ?_)
              refine ya_aload_n 0 rfl dX12_paste_46 ?_
              refine ya_getR fo_X12_79 (hG.o0 83 rfl) (hG.lt0 83 (by decide)) (hG.l0 103 rfl) dX12_paste_47 ?_
              refine ya_iload_n 3 rfl dX12_paste_50 ?_
              refine ya_iald (hG.s0 105 rfl) (hG.lt0 105 (by decide)) dX12_paste_51 h (fun x51 h => ?_)
              refine ya_icmp_eq 58 (by decide) dX12_paste_52 (fun c => ?_) (fun c => ?_)
              · replace h := ya_itet h c
                refine ya_iload_n 2 rfl dX12_paste_58 ?_
                refine ya_j0_s h (ya_E X Y_X12_paste (ya_M X (some (.int rr.1), G, rr.2) 0 0) 107 [] [] G d 0 0) (fun h => ?_) (fun k107 hk107 h => ?_)
                · refine ya_bipush (-7) (by decide) dX12_paste_107 ?_
                  cases h
                  exact ya_iret rfl rfl rfl rfl rfl (Nat.le_refl _) dX12_paste_109
                · refine ya_iflt 107 (by decide) dX12_paste_59 (fun c => ?_) (fun c => ?_)
                  · replace h := ya_itet h c
                    refine ya_sub [] [] rfl ?_
                    exact hk107  h
                  · replace h := ya_itef h c
                    refine ya_iload 4 rfl dX12_paste_62 ?_
                    refine ya_iflt 107 (by decide) dX12_paste_64 (fun c => ?_) (fun c => ?_)
                    · replace h := ya_itet h c
                      refine ya_sub [] [] rfl ?_
                      exact hk107  h
                    · replace h := ya_itef h c
                      refine ya_iload 5 rfl dX12_paste_67 ?_
                      refine ya_iflt 107 (by decide) dX12_paste_69 (fun c => ?_) (fun c => ?_)
                      · replace h := ya_itet h c
                        refine ya_sub [] [] rfl ?_
                        exact hk107  h
                      · replace h := ya_itef h c
                        refine ya_iload_n 2 rfl dX12_paste_72 ?_
                        refine ya_i2l dX12_paste_73 ?_
                        refine ya_iload 5 rfl dX12_paste_74 ?_
                        refine ya_i2l dX12_paste_76 ?_
                        refine ya_ladd dX12_paste_77 ?_
                        refine ya_aload_n 0 rfl dX12_paste_78 ?_
                        refine ya_getR fo_X12_76 (hG.o0 83 rfl) (hG.lt0 83 (by decide)) (hG.l0 102 rfl) dX12_paste_79 ?_
                        refine ya_iload_n 1 rfl dX12_paste_82 ?_
                        refine ya_iald (hG.s0 104 rfl) (hG.lt0 104 (by decide)) dX12_paste_83 h (fun x83 h => ?_)
                        refine ya_i2l dX12_paste_84 ?_
                        refine ya_lif_gt 107 (by decide) dX12_paste_85 dX12_paste_86 (fun c => ?_) (fun c => ?_)
                        · replace h := ya_itet h c
                          refine ya_sub [] [] rfl ?_
                          exact hk107  h
                        · replace h := ya_itef h c
                          refine ya_iload 4 rfl dX12_paste_89 ?_
                          refine ya_i2l dX12_paste_91 ?_
                          refine ya_iload 5 rfl dX12_paste_92 ?_
                          refine ya_i2l dX12_paste_94 ?_
                          refine ya_ladd dX12_paste_95 ?_
                          refine ya_aload_n 0 rfl dX12_paste_96 ?_
                          refine ya_getR fo_X12_76 (hG.o0 83 rfl) (hG.lt0 83 (by decide)) (hG.l0 102 rfl) dX12_paste_97 ?_
                          refine ya_iload_n 3 rfl dX12_paste_100 ?_
                          refine ya_iald (hG.s0 104 rfl) (hG.lt0 104 (by decide)) dX12_paste_101 h (fun x101 h => ?_)
                          refine ya_i2l dX12_paste_102 ?_
                          refine ya_lif_le 110 (by decide) dX12_paste_103 dX12_paste_104 (fun c => ?_) (fun c => ?_)
                          · replace h := ya_itet h c
                            refine ya_iconst 0 (by decide) dX12_paste_110 ?_
                            refine ya_istore [(6, .int 0), (0, .ref (X.2.1 + 83)), (1, .int v1), (2, .int v2), (3, .int v3), (4, .int v4), (5, .int v5)] (by decide) rfl dX12_paste_111 ?_
                            refine ya_sub [(0, .ref (X.2.1 + 83)), (1, .int v1), (2, .int v2), (3, .int v3), (4, .int v4), (5, .int v5), (6, .int 0)] [1, 2, 3, 4, 5, 6, 0] rfl ?_
                            refine w_X12_paste_L113 hG (fun d_147 h => ?_) ya_F _ _ h
                            refine ya_iconst 0 (by decide) dX12_paste_147 ?_
                            refine ya_istore [(6, .int 0), (0, .ref (X.2.1 + 83)), (3, .int v3), (4, .int v4), (5, .int v5)] (by decide) rfl dX12_paste_148 ?_
                            refine ya_sub [(0, .ref (X.2.1 + 83)), (3, .int v3), (4, .int v4), (5, .int v5), (6, .int 0)] [1, 2, 3, 4, 0] rfl ?_
                            refine w_X12_paste_L150 hG  ya_F _ _ h
                          · replace h := ya_itef h c
                            refine ya_sub [] [] rfl ?_
                            exact hk107  h
              · replace h := ya_itef h c
                refine ya_bipush (-8) (by decide) dX12_paste_55 ?_
                cases h
                exact ya_iret rfl rfl rfl rfl rfl (Nat.le_refl _) dX12_paste_57
            · replace h := ya_itet h c
              refine ya_sub [] [] rfl ?_
              exact hk37  h
      · replace h := ya_itet h c
        refine ya_sub [] [] rfl ?_
        exact hk14  h
