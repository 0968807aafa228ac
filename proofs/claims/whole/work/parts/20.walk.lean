set_option maxRecDepth 20000 in
theorem c_X11_cell {X : ya_X} {G : ya_G} {v0 : Int32} {v1 : Int32} {d : ya_D} {rr : Int32} (hG : ya_Bk ya_sh ya_ln G 0) (h : f_X11_cell v0 v1 = some rr) : ya_Ct X yX11_cell Y_X11_cell [.int v0, .int v1] G d (some (.int rr), G, d) := by
  refine ya_ct (by decide +kernel) rfl rfl (Nat.le_of_ble_eq_true rfl) ?_
  unfold f_X11_cell at h
  show ya_E X Y_X11_cell (ya_M X (some (.int rr), G, d) 0 0) 0 [(0, .int v0), (1, .int v1)] [] G d 0 0
  refine ya_iload_n 0 rfl dX11_cell_0 ?_
  refine ya_bipush 20 (by decide) dX11_cell_1 ?_
  refine ya_imul dX11_cell_3 ?_
  refine ya_iload_n 1 rfl dX11_cell_4 ?_
  refine ya_iadd dX11_cell_5 ?_
  cases h
  exact ya_iret rfl rfl rfl rfl rfl (Nat.le_refl _) dX11_cell_6
set_option maxRecDepth 20000 in
theorem w_X0_plan_L74 {X : ya_X} {G : ya_G} {a1 : Nat} {v2 : Int32} {v4 : Int32} {v5 : Int32} {v6 : Int32} {v7 : Int32} {d : ya_D} {rr : (Int32 × ya_D)} {e132 : Int32 → Option (Int32 × ya_D)} (hG : ya_Bk ya_sh ya_ln G 0) (h_a1 : ya_Bk shX2 lnX2 G a1) (he132 : ∀ (v8 : Int32), e132 v8 = some rr → ya_E X Y_X0_plan (ya_M X (some (.int rr.1), G, rr.2) 0 0) 132 [(0, .ref (X.2.1 + 79)), (1, .ref (X.2.1 + a1)), (2, .int v2), (3, .ref (X.2.1 + (a1 + 11))), (4, .int v4), (5, .int v5), (6, .int v6), (7, .int v7), (8, .int v8)] [] G d 0 0) : ∀ (n : Nat) (v8 : Int32) (v9 : Int32), f_X0_plan_L74 a1 v2 v4 v5 v6 v7 d e132 n v8 v9 = some rr → ya_E X Y_X0_plan (ya_M X (some (.int rr.1), G, rr.2) 0 0) 74 [(0, .ref (X.2.1 + 79)), (1, .ref (X.2.1 + a1)), (2, .int v2), (3, .ref (X.2.1 + (a1 + 11))), (4, .int v4), (5, .int v5), (6, .int v6), (7, .int v7), (8, .int v8), (9, .int v9)] [] G d 0 0 := by
  intro n
  induction n with
  | zero => intro v8 v9 h; cases h
  | succ n ih =>
    intro v8 v9 h
    rw [f_X0_plan_L74] at h
    refine ya_iload 9 rfl dX0_plan_74 ?_
    refine ya_iflt 132 (by decide) dX0_plan_76 (fun c => ?_) (fun c => ?_)
    · replace h := ya_itet h c
      refine ya_sub [(0, .ref (X.2.1 + 79)), (1, .ref (X.2.1 + a1)), (2, .int v2), (3, .ref (X.2.1 + (a1 + 11))), (4, .int v4), (5, .int v5), (6, .int v6), (7, .int v7), (8, .int v8)] [0, 1, 2, 3, 4, 5, 6, 7, 8] rfl ?_
      exact he132 _ h
    · replace h := ya_itef h c
      refine ya_iload 9 rfl dX0_plan_79 ?_
      refine ya_iload 7 rfl dX0_plan_81 ?_
      refine ya_iload 5 rfl dX0_plan_83 ?_
      refine ya_isub dX0_plan_85 ?_
      refine ya_icmp_lt 132 (by decide) dX0_plan_86 (fun c => ?_) (fun c => ?_)
      · replace h := ya_itet h c
        refine ya_sub [(0, .ref (X.2.1 + 79)), (1, .ref (X.2.1 + a1)), (2, .int v2), (3, .ref (X.2.1 + (a1 + 11))), (4, .int v4), (5, .int v5), (6, .int v6), (7, .int v7), (8, .int v8)] [0, 1, 2, 3, 4, 5, 6, 7, 8] rfl ?_
        exact he132 _ h
      · replace h := ya_itef h c
        refine ya_aload_n 1 rfl dX0_plan_89 ?_
        refine ya_getR fo_X0_35 (h_a1.o 0 rfl) (h_a1.lt 0 (by decide)) (h_a1.l 4 rfl) dX0_plan_90 ?_
        refine ya_getR fo_X0_56 (h_a1.o 1 rfl) (h_a1.lt 1 (by decide)) (h_a1.l 1 rfl) dX0_plan_93 ?_
        refine ya_iload 4 rfl dX0_plan_96 ?_
        refine ya_iload 9 rfl dX0_plan_98 ?_
        obtain ⟨x100, e100, h⟩ := ya_ob h
        refine ya_callSNi (S := [.ref (X.2.1 + (a1 + 3))]) (c_X11_cell hG e100) m_X11_cell ⟨rfl, rfl⟩ 16 rfl rfl ⟨Nat.le_of_ble_eq_true rfl, Nat.le_of_ble_eq_true rfl⟩ (Nat.le_of_ble_eq_true rfl) ⟨Nat.le_refl _, Nat.le_refl _⟩ dX0_plan_100 rfl ?_
        refine ya_iald (h_a1.s 3 rfl) (h_a1.lt 3 (by decide)) dX0_plan_103 h (fun x103 h => ?_)
        refine ya_aload_n 1 rfl dX0_plan_104 ?_
        refine ya_getR fo_X0_35 (h_a1.o 0 rfl) (h_a1.lt 0 (by decide)) (h_a1.l 4 rfl) dX0_plan_105 ?_
        refine ya_getR fo_X0_56 (h_a1.o 1 rfl) (h_a1.lt 1 (by decide)) (h_a1.l 1 rfl) dX0_plan_108 ?_
        refine ya_iload 4 rfl dX0_plan_111 ?_
        refine ya_iload 8 rfl dX0_plan_113 ?_
        obtain ⟨x115, e115, h⟩ := ya_ob h
        refine ya_callSNi (S := [.ref (X.2.1 + (a1 + 3)), .int x103]) (c_X11_cell hG e115) m_X11_cell ⟨rfl, rfl⟩ 16 rfl rfl ⟨Nat.le_of_ble_eq_true rfl, Nat.le_of_ble_eq_true rfl⟩ (Nat.le_of_ble_eq_true rfl) ⟨Nat.le_refl _, Nat.le_refl _⟩ dX0_plan_115 rfl ?_
        refine ya_iald (h_a1.s 3 rfl) (h_a1.lt 3 (by decide)) dX0_plan_118 h (fun x118 h => ?_)
        refine ya_j1_s h (fun v8_126 => ya_E X Y_X0_plan (ya_M X (some (.int rr.1), G, rr.2) 0 0) 126 [(0, .ref (X.2.1 + 79)), (1, .ref (X.2.1 + a1)), (2, .int v2), (3, .ref (X.2.1 + (a1 + 11))), (4, .int v4), (5, .int v5), (6, .int v6), (7, .int v7), (8, .int v8_126), (9, .int v9)] [] G d 0 0) (fun v8_126 h => ?_) (fun k126 hk126 h => ?_)
        · refine ya_iinc (v9 + (-1)) (congrArg (fun z => v9 + z) (by decide : Int32.ofInt (-1) = (-1))) 9 rfl [(9, .int (v9 + (-1))), (0, .ref (X.2.1 + 79)), (1, .ref (X.2.1 + a1)), (2, .int v2), (3, .ref (X.2.1 + (a1 + 11))), (4, .int v4), (5, .int v5), (6, .int v6), (7, .int v7), (8, .int v8_126)] (by decide) rfl dX0_plan_126 ?_
          refine ya_goto 74 (by decide) dX0_plan_129 ?_
          refine ya_sub [(0, .ref (X.2.1 + 79)), (1, .ref (X.2.1 + a1)), (2, .int v2), (3, .ref (X.2.1 + (a1 + 11))), (4, .int v4), (5, .int v5), (6, .int v6), (7, .int v7), (8, .int v8_126), (9, .int (v9 + (-1)))] [1, 2, 3, 4, 5, 6, 7, 8, 9, 0] rfl ?_
          exact ih _ _ h
        · refine ya_icmp_ge 126 (by decide) dX0_plan_119 (fun c => ?_) (fun c => ?_)
          · replace h := ya_itet h c
            exact hk126 _ h
          · replace h := ya_itef h c
            refine ya_iload 9 rfl dX0_plan_122 ?_
            refine ya_istore [(8, .int v9), (0, .ref (X.2.1 + 79)), (1, .ref (X.2.1 + a1)), (2, .int v2), (3, .ref (X.2.1 + (a1 + 11))), (4, .int v4), (5, .int v5), (6, .int v6), (7, .int v7), (9, .int v9)] (by decide) rfl dX0_plan_124 ?_
            refine ya_sub [(0, .ref (X.2.1 + 79)), (1, .ref (X.2.1 + a1)), (2, .int v2), (3, .ref (X.2.1 + (a1 + 11))), (4, .int v4), (5, .int v5), (6, .int v6), (7, .int v7), (8, .int v9), (9, .int v9)] [1, 2, 3, 4, 5, 6, 7, 8, 0, 9] rfl ?_
            exact hk126 _ h
set_option maxRecDepth 20000 in
theorem w_X0_plan_L53 {X : ya_X} {G : ya_G} {a1 : Nat} {v2 : Int32} {v4 : Int32} {v5 : Int32} {rr : (Int32 × ya_D)} (hG : ya_Bk ya_sh ya_ln G 0) (h_a1 : ya_Bk shX2 lnX2 G a1) : ∀ (n : Nat) (v6 : Int32) (v7 : Int32) (d : ya_D), f_X0_plan_L53 a1 v2 v4 v5 n v6 v7 d = some rr → ya_E X Y_X0_plan (ya_M X (some (.int rr.1), G, rr.2) 0 0) 53 [(0, .ref (X.2.1 + 79)), (1, .ref (X.2.1 + a1)), (2, .int v2), (3, .ref (X.2.1 + (a1 + 11))), (4, .int v4), (5, .int v5), (6, .int v6), (7, .int v7)] [] G d 0 0 := by
  intro n
  induction n with
  | zero => intro v6 v7 d h; cases h
  | succ n ih =>
    intro v6 v7 d h
    rw [f_X0_plan_L53] at h
    refine ya_iload 7 rfl dX0_plan_53 ?_
    refine ya_aload_n 3 rfl dX0_plan_55 ?_
    refine ya_getR fo_X0_53 (h_a1.o 11 rfl) (h_a1.lt 11 (by decide)) (h_a1.l 14 rfl) dX0_plan_56 ?_
    refine ya_iload_n 2 rfl dX0_plan_59 ?_
    refine ya_iald (h_a1.s 16 rfl) (h_a1.lt 16 (by decide)) dX0_plan_60 h (fun x60 h => ?_)
    refine ya_icmp_gt 181 (by decide) dX0_plan_61 (fun c => ?_) (fun c => ?_)
    · replace h := ya_itet h c
      refine ya_iload 6 rfl dX0_plan_181 ?_
      cases h
      exact ya_iret rfl rfl rfl rfl rfl (Nat.le_refl _) dX0_plan_183
    · replace h := ya_itef h c
      refine ya_iload 7 rfl dX0_plan_64 ?_
      refine ya_istore [(8, .int v7), (0, .ref (X.2.1 + 79)), (1, .ref (X.2.1 + a1)), (2, .int v2), (3, .ref (X.2.1 + (a1 + 11))), (4, .int v4), (5, .int v5), (6, .int v6), (7, .int v7)] (by decide) rfl dX0_plan_66 ?_
      refine ya_iload 8 rfl dX0_plan_68 ?_
      refine ya_iconst 1 (by decide) dX0_plan_70 ?_
      refine ya_isub dX0_plan_71 ?_
      refine ya_istore [(9, .int (v7 - 1)), (8, .int v7), (0, .ref (X.2.1 + 79)), (1, .ref (X.2.1 + a1)), (2, .int v2), (3, .ref (X.2.1 + (a1 + 11))), (4, .int v4), (5, .int v5), (6, .int v6), (7, .int v7)] (by decide) rfl dX0_plan_72 ?_
      refine ya_sub [(0, .ref (X.2.1 + 79)), (1, .ref (X.2.1 + a1)), (2, .int v2), (3, .ref (X.2.1 + (a1 + 11))), (4, .int v4), (5, .int v5), (6, .int v6), (7, .int v7), (8, .int v7), (9, .int (v7 - 1))] [2, 3, 4, 5, 6, 7, 8, 9, 1, 0] rfl ?_
      refine w_X0_plan_L74 hG h_a1 (fun v8_132 h => ?_) ya_F _ _ h
      refine ya_aload_n 0 rfl dX0_plan_132 ?_
      refine ya_getR fo_X0_9 (hG.o0 79 rfl) (hG.lt0 79 (by decide)) (hG.l0 78 rfl) dX0_plan_133 ?_
      refine ya_iload 8 rfl dX0_plan_136 ?_
      refine ya_dup2 rfl rfl dX0_plan_138 ?_
      refine ya_iald (hG.s0 80 rfl) (hG.lt0 80 (by decide)) dX0_plan_139 h (fun x139 h => ?_)
      refine ya_aload_n 3 rfl dX0_plan_140 ?_
      refine ya_getR fo_X0_62 (h_a1.o 11 rfl) (h_a1.lt 11 (by decide)) (h_a1.l 11 rfl) dX0_plan_141 ?_
      refine ya_iload_n 2 rfl dX0_plan_144 ?_
      refine ya_iald (h_a1.s 13 rfl) (h_a1.lt 13 (by decide)) dX0_plan_145 h (fun x145 h => ?_)
      refine ya_iadd dX0_plan_146 ?_
      refine ya_iast (hG.s0 80 rfl) (hG.lt0 80 (by decide)) dX0_plan_147 h (fun d147 h => ?_)
      refine ya_iload 6 rfl dX0_plan_148 ?_
      refine ya_aload_n 3 rfl dX0_plan_150 ?_
      refine ya_getR fo_X0_62 (h_a1.o 11 rfl) (h_a1.lt 11 (by decide)) (h_a1.l 11 rfl) dX0_plan_151 ?_
      refine ya_iload_n 2 rfl dX0_plan_154 ?_
      refine ya_iald (h_a1.s 13 rfl) (h_a1.lt 13 (by decide)) dX0_plan_155 h (fun x155 h => ?_)
      refine ya_aload_n 1 rfl dX0_plan_156 ?_
      refine ya_getR fo_X0_35 (h_a1.o 0 rfl) (h_a1.lt 0 (by decide)) (h_a1.l 4 rfl) dX0_plan_157 ?_
      refine ya_getR fo_X0_56 (h_a1.o 1 rfl) (h_a1.lt 1 (by decide)) (h_a1.l 1 rfl) dX0_plan_160 ?_
      refine ya_iload 4 rfl dX0_plan_163 ?_
      refine ya_iload 8 rfl dX0_plan_165 ?_
      obtain ⟨x167, e167, h⟩ := ya_ob h
      refine ya_callSNi (S := [.ref (X.2.1 + (a1 + 3)), .int x155, .int v6]) (c_X11_cell hG e167) m_X11_cell ⟨rfl, rfl⟩ 16 rfl rfl ⟨Nat.le_of_ble_eq_true rfl, Nat.le_of_ble_eq_true rfl⟩ (Nat.le_of_ble_eq_true rfl) ⟨Nat.le_refl _, Nat.le_refl _⟩ dX0_plan_167 rfl ?_
      refine ya_iald (h_a1.s 3 rfl) (h_a1.lt 3 (by decide)) dX0_plan_170 h (fun x170 h => ?_)
      refine ya_imul dX0_plan_171 ?_
      refine ya_iadd dX0_plan_172 ?_
      refine ya_istore [(6, .int (v6 + (x155 * x170))), (0, .ref (X.2.1 + 79)), (1, .ref (X.2.1 + a1)), (2, .int v2), (3, .ref (X.2.1 + (a1 + 11))), (4, .int v4), (5, .int v5), (7, .int v7), (8, .int v8_132)] (by decide) rfl dX0_plan_173 ?_
      refine ya_iinc (v7 + 1) rfl 7 rfl [(7, .int (v7 + 1)), (6, .int (v6 + (x155 * x170))), (0, .ref (X.2.1 + 79)), (1, .ref (X.2.1 + a1)), (2, .int v2), (3, .ref (X.2.1 + (a1 + 11))), (4, .int v4), (5, .int v5), (8, .int v8_132)] (by decide) rfl dX0_plan_175 ?_
      refine ya_goto 53 (by decide) dX0_plan_178 ?_
      refine ya_sub [(0, .ref (X.2.1 + 79)), (1, .ref (X.2.1 + a1)), (2, .int v2), (3, .ref (X.2.1 + (a1 + 11))), (4, .int v4), (5, .int v5), (6, .int (v6 + (x155 * x170))), (7, .int (v7 + 1))] [2, 3, 4, 5, 6, 7, 1, 0] rfl ?_
      exact ih _ _ _ h
set_option maxRecDepth 20000 in
theorem c_X0_plan {X : ya_X} {G : ya_G} {a1 : Nat} {v2 : Int32} {d : ya_D} {rr : (Int32 × ya_D)} (hG : ya_Bk ya_sh ya_ln G 0) (h_a1 : ya_Bk shX2 lnX2 G a1) (h : f_X0_plan a1 v2 d = some rr) : ya_Ct X yX0_plan Y_X0_plan [.ref (X.2.1 + 79), .ref (X.2.1 + a1), .int v2] G d (some (.int rr.1), G, rr.2) := by
  refine ya_ct (by decide +kernel) rfl rfl (Nat.le_of_ble_eq_true rfl) ?_
  unfold f_X0_plan at h
  show ya_E X Y_X0_plan (ya_M X (some (.int rr.1), G, rr.2) 0 0) 0 [(0, .ref (X.2.1 + 79)), (1, .ref (X.2.1 + a1)), (2, .int v2)] [] G d 0 0
  refine ya_aload_n 0 rfl dX0_plan_0 ?_
  refine ya_getR fo_X0_9 (hG.o0 79 rfl) (hG.lt0 79 (by decide)) (hG.l0 78 rfl) dX0_plan_1 ?_
  refine ya_iconst 0 (by decide) dX0_plan_4 ?_
  refine ya_fillI (hG.s0 80 rfl) (by decide) (hG.lt0 80 (by decide)) ml_X0_15 (by decide) (by decide) (Nat.le_of_ble_eq_true rfl) dX0_plan_5 h ⟨Nat.le_refl _, Nat.le_refl _⟩ (fun d5 h => ?_)
  refine ya_aload_n 1 rfl dX0_plan_8 ?_
  refine ya_getR fo_X0_21 (h_a1.o 0 rfl) (h_a1.lt 0 (by decide)) (h_a1.l 16 rfl) dX0_plan_9 ?_
  refine ya_astore_n [(3, .ref (X.2.1 + (a1 + 11))), (0, .ref (X.2.1 + 79)), (1, .ref (X.2.1 + a1)), (2, .int v2)] (by decide) rfl dX0_plan_12 ?_
  refine ya_aload_n 0 rfl dX0_plan_13 ?_
  refine ya_getR fo_X0_27 (h_a1.o 11 rfl) (h_a1.lt 11 (by decide)) (h_a1.l 10 rfl) dX0_plan_14 ?_
  refine ya_iload_n 3 rfl dX0_plan_17 ?_
  refine ya_iald (h_a1.s 12 rfl) (h_a1.lt 12 (by decide)) dX0_plan_18 h (fun x18 h => ?_)
  refine ya_istore [(4, .int x18), (3, .ref (X.2.1 + (a1 + 11))), (0, .ref (X.2.1 + 79)), (1, .ref (X.2.1 + a1)), (2, .int v2)] (by decide) rfl dX0_plan_19 ?_
  refine ya_aload_n 1 rfl dX0_plan_21 ?_
  refine ya_getR fo_X0_32 (h_a1.o 11 rfl) (h_a1.lt 11 (by decide)) (h_a1.l 15 rfl) dX0_plan_22 ?_
  refine ya_iload_n 4 rfl dX0_plan_25 ?_
  refine ya_iald (h_a1.s 17 rfl) (h_a1.lt 17 (by decide)) dX0_plan_26 h (fun x26 h => ?_)
  refine ya_aload_n 3 rfl dX0_plan_27 ?_
  refine ya_getR fo_X0_35 (h_a1.o 0 rfl) (h_a1.lt 0 (by decide)) (h_a1.l 4 rfl) dX0_plan_28 ?_
  refine ya_getR fo_X0_39 (h_a1.o 1 rfl) (h_a1.lt 1 (by decide)) (h_a1.l 0 rfl) dX0_plan_31 ?_
  refine ya_iload 0 rfl dX0_plan_34 ?_
  refine ya_iald (h_a1.s 2 rfl) (h_a1.lt 2 (by decide)) dX0_plan_36 h (fun x36 h => ?_)
  refine ya_mmin ml_X0_44 wm_min1 wm_min2 wm_min3 (by decide) (Nat.le_of_ble_eq_true rfl) ⟨Nat.le_refl _, Nat.le_refl _⟩ dX0_plan_37 ?_
  refine ya_istore [(5, .int (ya_min x26 x36)), (4, .int x18), (3, .ref (X.2.1 + (a1 + 11))), (0, .ref (X.2.1 + 79)), (1, .ref (X.2.1 + a1)), (2, .int v2)] (by decide) rfl dX0_plan_40 ?_
  refine ya_iconst 0 (by decide) dX0_plan_42 ?_
  refine ya_istore [(6, .int 0), (5, .int (ya_min x26 x36)), (4, .int x18), (3, .ref (X.2.1 + (a1 + 11))), (0, .ref (X.2.1 + 79)), (1, .ref (X.2.1 + a1)), (2, .int v2)] (by decide) rfl dX0_plan_43 ?_
  refine ya_aload_n 3 rfl dX0_plan_45 ?_
  refine ya_getR fo_X0_50 (h_a1.o 11 rfl) (h_a1.lt 11 (by decide)) (h_a1.l 13 rfl) dX0_plan_46 ?_
  refine ya_iload_n 6 rfl dX0_plan_49 ?_
  refine ya_iald (h_a1.s 15 rfl) (h_a1.lt 15 (by decide)) dX0_plan_50 h (fun x50 h => ?_)
  refine ya_istore [(7, .int x50), (6, .int 0), (5, .int (ya_min x26 x36)), (4, .int x18), (3, .ref (X.2.1 + (a1 + 11))), (0, .ref (X.2.1 + 79)), (1, .ref (X.2.1 + a1)), (2, .int v2)] (by decide) rfl dX0_plan_51 ?_
  refine ya_sub [(0, .ref (X.2.1 + 79)), (1, .ref (X.2.1 + a1)), (2, .int v2), (3, .ref (X.2.1 + (a1 + 11))), (4, .int x18), (5, .int (ya_min x26 x36)), (6, .int 0), (7, .int x50)] [5, 6, 7, 4, 3, 2, 1, 0] rfl ?_
  refine w_X0_plan_L53 hG h_a1  ya_F _ _ _ h
set_option maxRecDepth 20000 in
theorem c_X1_add {X : ya_X} {G : ya_G} {a0 : Nat} {d : ya_D} {rr : ya_D} (hG : ya_Bk ya_sh ya_ln G 0) (h_a0 : ya_Bk shX1 lnX1 G a0) (h : f_X1_add a0 d = some rr) : ya_Ct X yX1_add Y_X1_add [.ref (X.2.1 + a0), .ref (X.2.1 + 23)] G d (none, G, rr) := by
  refine ya_ct (by decide +kernel) rfl rfl (Nat.le_of_ble_eq_true rfl) ?_
  unfold f_X1_add at h
  show ya_E X Y_X1_add (ya_M X (none, G, rr) 0 0) 0 [(0, .ref (X.2.1 + a0)), (1, .ref (X.2.1 + 23))] [] G d 0 0
  refine ya_aload_n 0 rfl dX1_add_0 ?_
  refine ya_getI fo_X1_30 (h_a0.o 0 rfl) (h_a0.lt 0 (by decide)) dX1_add_1 ?_
  refine ya_bipush 7 (by decide) dX1_add_4 ?_
  refine ya_icmp_ge 16 (by decide) dX1_add_6 (fun c => ?_) (fun c => ?_)
  · replace h := ya_itet h c
    cases h
    exact ya_vret rfl rfl rfl rfl rfl (Nat.le_refl _) dX1_add_16
  · replace h := ya_itef h c
    refine ya_aload_n 1 rfl dX1_add_9 ?_
    refine ya_alen (v := 6) (hG.s0 23 rfl) (by decide) (by decide) (hG.lt0 23 (by decide)) (by decide) dX1_add_10 ?_
    refine ya_bipush 6 (by decide) dX1_add_11 ?_
    refine ya_icmp_ge 17 (by decide) dX1_add_13 (fun c => ?_) (fun c => ?_)
    · replace h := ya_itet h c
      refine ya_aload_n 0 rfl dX1_add_17 ?_
      refine ya_getR fo_X1_9 (h_a0.o 0 rfl) (h_a0.lt 0 (by decide)) (h_a0.l 0 rfl) dX1_add_18 ?_
      refine ya_aload_n 0 rfl dX1_add_21 ?_
      refine ya_getI fo_X1_30 (h_a0.o 0 rfl) (h_a0.lt 0 (by decide)) dX1_add_22 ?_
      refine ya_aload_n 1 rfl dX1_add_25 ?_
      refine ya_iconst 0 (by decide) dX1_add_26 ?_
      refine ya_iald (hG.s0 23 rfl) (hG.lt0 23 (by decide)) dX1_add_27 h (fun x27 h => ?_)
      refine ya_iast (h_a0.s 1 rfl) (h_a0.lt 1 (by decide)) dX1_add_28 h (fun d28 h => ?_)
      refine ya_aload_n 0 rfl dX1_add_29 ?_
      refine ya_getR fo_X1_15 (h_a0.o 0 rfl) (h_a0.lt 0 (by decide)) (h_a0.l 1 rfl) dX1_add_30 ?_
      refine ya_aload_n 0 rfl dX1_add_33 ?_
      refine ya_getI fo_X1_30 (h_a0.o 0 rfl) (h_a0.lt 0 (by decide)) dX1_add_34 ?_
      refine ya_aload_n 1 rfl dX1_add_37 ?_
      refine ya_iconst 1 (by decide) dX1_add_38 ?_
      refine ya_iald (hG.s0 23 rfl) (hG.lt0 23 (by decide)) dX1_add_39 h (fun x39 h => ?_)
      refine ya_iast (h_a0.s 2 rfl) (h_a0.lt 2 (by decide)) dX1_add_40 h (fun d40 h => ?_)
      refine ya_aload_n 0 rfl dX1_add_41 ?_
      refine ya_getR fo_X1_18 (h_a0.o 0 rfl) (h_a0.lt 0 (by decide)) (h_a0.l 2 rfl) dX1_add_42 ?_
      refine ya_aload_n 0 rfl dX1_add_45 ?_
      refine ya_getI fo_X1_30 (h_a0.o 0 rfl) (h_a0.lt 0 (by decide)) dX1_add_46 ?_
      refine ya_aload_n 1 rfl dX1_add_49 ?_
      refine ya_iconst 2 (by decide) dX1_add_50 ?_
      refine ya_iald (hG.s0 23 rfl) (hG.lt0 23 (by decide)) dX1_add_51 h (fun x51 h => ?_)
      refine ya_iast (h_a0.s 3 rfl) (h_a0.lt 3 (by decide)) dX1_add_52 h (fun d52 h => ?_)
      refine ya_aload_n 0 rfl dX1_add_53 ?_
      refine ya_getR fo_X1_21 (h_a0.o 0 rfl) (h_a0.lt 0 (by decide)) (h_a0.l 3 rfl) dX1_add_54 ?_
      refine ya_aload_n 0 rfl dX1_add_57 ?_
      refine ya_getI fo_X1_30 (h_a0.o 0 rfl) (h_a0.lt 0 (by decide)) dX1_add_58 ?_
      refine ya_aload_n 1 rfl dX1_add_61 ?_
      refine ya_iconst 3 (by decide) dX1_add_62 ?_
      refine ya_iald (hG.s0 23 rfl) (hG.lt0 23 (by decide)) dX1_add_63 h (fun x63 h => ?_)
      refine ya_iast (h_a0.s 4 rfl) (h_a0.lt 4 (by decide)) dX1_add_64 h (fun d64 h => ?_)
      refine ya_aload_n 0 rfl dX1_add_65 ?_
      refine ya_getR fo_X1_24 (h_a0.o 0 rfl) (h_a0.lt 0 (by decide)) (h_a0.l 4 rfl) dX1_add_66 ?_
      refine ya_aload_n 0 rfl dX1_add_69 ?_
      refine ya_getI fo_X1_30 (h_a0.o 0 rfl) (h_a0.lt 0 (by decide)) dX1_add_70 ?_
      refine ya_aload_n 1 rfl dX1_add_73 ?_
      refine ya_iconst 4 (by decide) dX1_add_74 ?_
      refine ya_iald (hG.s0 23 rfl) (hG.lt0 23 (by decide)) dX1_add_75 h (fun x75 h => ?_)
      refine ya_iast (h_a0.s 5 rfl) (h_a0.lt 5 (by decide)) dX1_add_76 h (fun d76 h => ?_)
      refine ya_aload_n 0 rfl dX1_add_77 ?_
      refine ya_getR fo_X1_27 (h_a0.o 0 rfl) (h_a0.lt 0 (by decide)) (h_a0.l 5 rfl) dX1_add_78 ?_
      refine ya_aload_n 0 rfl dX1_add_81 ?_
      refine ya_getI fo_X1_30 (h_a0.o 0 rfl) (h_a0.lt 0 (by decide)) dX1_add_82 ?_
      refine ya_aload_n 1 rfl dX1_add_85 ?_
      refine ya_iconst 5 (by decide) dX1_add_86 ?_
      refine ya_iald (hG.s0 23 rfl) (hG.lt0 23 (by decide)) dX1_add_87 h (fun x87 h => ?_)
      refine ya_iast (h_a0.s 6 rfl) (h_a0.lt 6 (by decide)) dX1_add_88 h (fun d88 h => ?_)
      refine ya_aload_n 0 rfl dX1_add_89 ?_
      refine ya_dup rfl dX1_add_90 ?_
      refine ya_getI fo_X1_30 (h_a0.o 0 rfl) (h_a0.lt 0 (by decide)) dX1_add_91 ?_
      refine ya_iconst 1 (by decide) dX1_add_94 ?_
      refine ya_iadd dX1_add_95 ?_
      refine ya_putIb fo_X1_30 (h_a0.o 0 rfl) (h_a0.lt 0 (by decide)) .int pf_X1_0 rfl rfl dX1_add_96 h (fun d96 h => ?_)
      cases h
      exact ya_vret rfl rfl rfl rfl rfl (Nat.le_refl _) dX1_add_99
    · replace h := ya_itef h c
      cases h
      exact ya_vret rfl rfl rfl rfl rfl (Nat.le_refl _) dX1_add_16
set_option maxRecDepth 20000 in
theorem c_X1_comes {X : ya_X} {G : ya_G} {a0 : Nat} {v1 : Int32} {v2 : Int32} {v3 : Int32} {v4 : Int32} {d : ya_D} {rr : Int32} (hG : ya_Bk ya_sh ya_ln G 0) (h_a0 : ya_Bk shX1 lnX1 G a0) (h : f_X1_comes a0 v1 v2 v3 v4 d = some rr) : ya_Ct X yX1_comes Y_X1_comes [.ref (X.2.1 + a0), .int v1, .int v2, .int v3, .int v4] G d (some (.int rr), G, d) := by
  refine ya_ct (by decide +kernel) rfl rfl (Nat.le_of_ble_eq_true rfl) ?_
  unfold f_X1_comes at h
  show ya_E X Y_X1_comes (ya_M X (some (.int rr), G, d) 0 0) 0 [(0, .ref (X.2.1 + a0)), (1, .int v1), (2, .int v2), (3, .int v3), (4, .int v4)] [] G d 0 0
  refine ya_aload_n 0 rfl dX1_comes_0 ?_
  refine ya_getR fo_X1_9 (h_a0.o 0 rfl) (h_a0.lt 0 (by decide)) (h_a0.l 0 rfl) dX1_comes_1 ?_
  refine ya_iload_n 1 rfl dX1_comes_4 ?_
  refine ya_iald (h_a0.s 1 rfl) (h_a0.lt 1 (by decide)) dX1_comes_5 h (fun x5 h => ?_)
  refine ya_iload_n 2 rfl dX1_comes_6 ?_
  refine ya_j0_s h (ya_E X Y_X1_comes (ya_M X (some (.int rr), G, d) 0 0) 45 [] [] G d 0 0) (fun h => ?_) (fun k45 hk45 h => ?_)
  · refine ya_iconst 0 (by decide) dX1_comes_45 ?_
    cases h
    exact ya_zret .boolean rfl rfl rfl rfl (by decide) rfl (Nat.le_refl _) dX1_comes_46
  · refine ya_icmp_ne 45 (by decide) dX1_comes_7 (fun c => ?_) (fun c => ?_)
    · replace h := ya_itef h c
      refine ya_sub [] [] rfl ?_
      exact hk45  h
    · replace h := ya_itet h c
      refine ya_aload_n 0 rfl dX1_comes_10 ?_
      refine ya_getR fo_X1_21 (h_a0.o 0 rfl) (h_a0.lt 0 (by decide)) (h_a0.l 3 rfl) dX1_comes_11 ?_
      refine ya_iload_n 1 rfl dX1_comes_14 ?_
      refine ya_iald (h_a0.s 4 rfl) (h_a0.lt 4 (by decide)) dX1_comes_15 h (fun x15 h => ?_)
      refine ya_iload_n 3 rfl dX1_comes_16 ?_
      refine ya_icmp_gt 45 (by decide) dX1_comes_17 (fun c => ?_) (fun c => ?_)
      · replace h := ya_itet h c
        refine ya_sub [] [] rfl ?_
        exact hk45  h
      · replace h := ya_itef h c
        refine ya_iload_n 3 rfl dX1_comes_20 ?_
        refine ya_aload_n 0 rfl dX1_comes_21 ?_
        refine ya_getR fo_X1_24 (h_a0.o 0 rfl) (h_a0.lt 0 (by decide)) (h_a0.l 4 rfl) dX1_comes_22 ?_
        refine ya_iload_n 1 rfl dX1_comes_25 ?_
        refine ya_iald (h_a0.s 5 rfl) (h_a0.lt 5 (by decide)) dX1_comes_26 h (fun x26 h => ?_)
        refine ya_icmp_gt 45 (by decide) dX1_comes_27 (fun c => ?_) (fun c => ?_)
        · replace h := ya_itet h c
          refine ya_sub [] [] rfl ?_
          exact hk45  h
        · replace h := ya_itef h c
          refine ya_aload_n 0 rfl dX1_comes_30 ?_
          refine ya_getR fo_X1_18 (h_a0.o 0 rfl) (h_a0.lt 0 (by decide)) (h_a0.l 2 rfl) dX1_comes_31 ?_
          refine ya_iload_n 1 rfl dX1_comes_34 ?_
          refine ya_iald (h_a0.s 3 rfl) (h_a0.lt 3 (by decide)) dX1_comes_35 h (fun x35 h => ?_)
          refine ya_iload 4 rfl dX1_comes_36 ?_
          refine ya_icmp_lt 45 (by decide) dX1_comes_38 (fun c => ?_) (fun c => ?_)
          · replace h := ya_itet h c
            refine ya_sub [] [] rfl ?_
            exact hk45  h
          · replace h := ya_itef h c
            refine ya_iconst 1 (by decide) dX1_comes_41 ?_
            refine ya_goto 46 (by decide) dX1_comes_42 ?_
            cases h
            exact ya_zret .boolean rfl rfl rfl rfl (by decide) rfl (Nat.le_refl _) dX1_comes_46
set_option maxRecDepth 20000 in
theorem w_X1_wanted_L6 {X : ya_X} {G : ya_G} {a0 : Nat} {v1 : Int32} {v2 : Int32} {v3 : Int32} {d : ya_D} {rr : Int32} (hG : ya_Bk ya_sh ya_ln G 0) (h_a0 : ya_Bk shX1 lnX1 G a0) : ∀ (n : Nat) (v4 : Int32) (v5 : Int32), f_X1_wanted_L6 a0 v1 v2 v3 d n v4 v5 = some rr → ya_E X Y_X1_wanted (ya_M X (some (.int rr), G, d) 0 0) 6 [(0, .ref (X.2.1 + a0)), (1, .int v1), (2, .int v2), (3, .int v3), (4, .int v4), (5, .int v5)] [] G d 0 0 := by
  intro n
  induction n with
  | zero => intro v4 v5 h; cases h
  | succ n ih =>
    intro v4 v5 h
    rw [f_X1_wanted_L6] at h
    refine ya_iload 5 rfl dX1_wanted_6 ?_
    refine ya_aload_n 0 rfl dX1_wanted_8 ?_
    refine ya_getI fo_X1_30 (h_a0.o 0 rfl) (h_a0.lt 0 (by decide)) dX1_wanted_9 ?_
    refine ya_icmp_ge 45 (by decide) dX1_wanted_12 (fun c => ?_) (fun c => ?_)
    · replace h := ya_itet h c
      refine ya_iload 4 rfl dX1_wanted_45 ?_
      cases h
      exact ya_iret rfl rfl rfl rfl rfl (Nat.le_refl _) dX1_wanted_47
    · replace h := ya_itef h c
      refine ya_aload_n 0 rfl dX1_wanted_15 ?_
      refine ya_iload 5 rfl dX1_wanted_16 ?_
      refine ya_iload_n 1 rfl dX1_wanted_18 ?_
      refine ya_iload_n 2 rfl dX1_wanted_19 ?_
      refine ya_iload_n 3 rfl dX1_wanted_20 ?_
      obtain ⟨x21, e21, h⟩ := ya_ob h
      refine ya_callVi (S := []) (c_X1_comes hG h_a0 e21) m_X1_comes ⟨rfl, rfl⟩ ml_X1_34 rfl ⟨Nat.le_of_ble_eq_true rfl, Nat.le_of_ble_eq_true rfl⟩ (Nat.le_of_ble_eq_true rfl) (h_a0.lt 0 (by decide)) (h_a0.o 0 rfl) (by decide) rfl rfl ⟨Nat.le_refl _, Nat.le_refl _⟩ dX1_wanted_21 rfl ?_
      refine ya_j1_s h (fun v4_39 => ya_E X Y_X1_wanted (ya_M X (some (.int rr), G, d) 0 0) 39 [(0, .ref (X.2.1 + a0)), (1, .int v1), (2, .int v2), (3, .int v3), (4, .int v4_39), (5, .int v5)] [] G d 0 0) (fun v4_39 h => ?_) (fun k39 hk39 h => ?_)
      · refine ya_iinc (v5 + 1) rfl 5 rfl [(5, .int (v5 + 1)), (0, .ref (X.2.1 + a0)), (1, .int v1), (2, .int v2), (3, .int v3), (4, .int v4_39)] (by decide) rfl dX1_wanted_39 ?_
        refine ya_goto 6 (by decide) dX1_wanted_42 ?_
        refine ya_sub [(0, .ref (X.2.1 + a0)), (1, .int v1), (2, .int v2), (3, .int v3), (4, .int v4_39), (5, .int (v5 + 1))] [1, 2, 3, 4, 5, 0] rfl ?_
        exact ih _ _ h
      · refine ya_ifeq 39 (by decide) dX1_wanted_24 (fun c => ?_) (fun c => ?_)
        · replace h := ya_itet h c
          exact hk39 _ h
        · replace h := ya_itef h c
          refine ya_iload 4 rfl dX1_wanted_27 ?_
          refine ya_aload_n 0 rfl dX1_wanted_29 ?_
          refine ya_getR fo_X1_15 (h_a0.o 0 rfl) (h_a0.lt 0 (by decide)) (h_a0.l 1 rfl) dX1_wanted_30 ?_
          refine ya_iload 5 rfl dX1_wanted_33 ?_
          refine ya_iald (h_a0.s 2 rfl) (h_a0.lt 2 (by decide)) dX1_wanted_35 h (fun x35 h => ?_)
          refine ya_iadd dX1_wanted_36 ?_
          refine ya_istore [(4, .int (v4 + x35)), (0, .ref (X.2.1 + a0)), (1, .int v1), (2, .int v2), (3, .int v3), (5, .int v5)] (by decide) rfl dX1_wanted_37 ?_
          refine ya_sub [(0, .ref (X.2.1 + a0)), (1, .int v1), (2, .int v2), (3, .int v3), (4, .int (v4 + x35)), (5, .int v5)] [1, 2, 3, 4, 0, 5] rfl ?_
          exact hk39 _ h
set_option maxRecDepth 20000 in
theorem c_X1_wanted {X : ya_X} {G : ya_G} {a0 : Nat} {v1 : Int32} {v2 : Int32} {v3 : Int32} {d : ya_D} {rr : Int32} (hG : ya_Bk ya_sh ya_ln G 0) (h_a0 : ya_Bk shX1 lnX1 G a0) (h : f_X1_wanted a0 v1 v2 v3 d = some rr) : ya_Ct X yX1_wanted Y_X1_wanted [.ref (X.2.1 + a0), .int v1, .int v2, .int v3] G d (some (.int rr), G, d) := by
  refine ya_ct (by decide +kernel) rfl rfl (Nat.le_of_ble_eq_true rfl) ?_
  unfold f_X1_wanted at h
  show ya_E X Y_X1_wanted (ya_M X (some (.int rr), G, d) 0 0) 0 [(0, .ref (X.2.1 + a0)), (1, .int v1), (2, .int v2), (3, .int v3)] [] G d 0 0
  refine ya_iconst 0 (by decide) dX1_wanted_0 ?_
  refine ya_istore [(4, .int 0), (0, .ref (X.2.1 + a0)), (1, .int v1), (2, .int v2), (3, .int v3)] (by decide) rfl dX1_wanted_1 ?_
  refine ya_iconst 0 (by decide) dX1_wanted_3 ?_
  refine ya_istore [(5, .int 0), (4, .int 0), (0, .ref (X.2.1 + a0)), (1, .int v1), (2, .int v2), (3, .int v3)] (by decide) rfl dX1_wanted_4 ?_
  refine ya_sub [(0, .ref (X.2.1 + a0)), (1, .int v1), (2, .int v2), (3, .int v3), (4, .int 0), (5, .int 0)] [2, 3, 4, 5, 1, 0] rfl ?_
  refine w_X1_wanted_L6 hG h_a0  ya_F _ _ h
set_option maxRecDepth 20000 in
theorem w_X1_countComing_L6 {X : ya_X} {G : ya_G} {a0 : Nat} {v1 : Int32} {v2 : Int32} {v3 : Int32} {d : ya_D} {rr : Int32} (hG : ya_Bk ya_sh ya_ln G 0) (h_a0 : ya_Bk shX1 lnX1 G a0) : ∀ (n : Nat) (v4 : Int32) (v5 : Int32), f_X1_countComing_L6 a0 v1 v2 v3 d n v4 v5 = some rr → ya_E X Y_X1_countComing (ya_M X (some (.int rr), G, d) 0 0) 6 [(0, .ref (X.2.1 + a0)), (1, .int v1), (2, .int v2), (3, .int v3), (4, .int v4), (5, .int v5)] [] G d 0 0 := by
  intro n
  induction n with
  | zero => intro v4 v5 h; cases h
  | succ n ih =>
    intro v4 v5 h
    rw [f_X1_countComing_L6] at h
    refine ya_iload 5 rfl dX1_countComing_6 ?_
    refine ya_aload_n 0 rfl dX1_countComing_8 ?_
    refine ya_getI fo_X1_30 (h_a0.o 0 rfl) (h_a0.lt 0 (by decide)) dX1_countComing_9 ?_
    refine ya_icmp_ge 36 (by decide) dX1_countComing_12 (fun c => ?_) (fun c => ?_)
    · replace h := ya_itet h c
      refine ya_iload 4 rfl dX1_countComing_36 ?_
      cases h
      exact ya_iret rfl rfl rfl rfl rfl (Nat.le_refl _) dX1_countComing_38
    · replace h := ya_itef h c
      refine ya_aload_n 0 rfl dX1_countComing_15 ?_
      refine ya_iload 5 rfl dX1_countComing_16 ?_
      refine ya_iload_n 1 rfl dX1_countComing_18 ?_
      refine ya_iload_n 2 rfl dX1_countComing_19 ?_
      refine ya_iload_n 3 rfl dX1_countComing_20 ?_
      obtain ⟨x21, e21, h⟩ := ya_ob h
      refine ya_callVi (S := []) (c_X1_comes hG h_a0 e21) m_X1_comes ⟨rfl, rfl⟩ ml_X1_34 rfl ⟨Nat.le_of_ble_eq_true rfl, Nat.le_of_ble_eq_true rfl⟩ (Nat.le_of_ble_eq_true rfl) (h_a0.lt 0 (by decide)) (h_a0.o 0 rfl) (by decide) rfl rfl ⟨Nat.le_refl _, Nat.le_refl _⟩ dX1_countComing_21 rfl ?_
      refine ya_j1_s h (fun v4_30 => ya_E X Y_X1_countComing (ya_M X (some (.int rr), G, d) 0 0) 30 [(0, .ref (X.2.1 + a0)), (1, .int v1), (2, .int v2), (3, .int v3), (4, .int v4_30), (5, .int v5)] [] G d 0 0) (fun v4_30 h => ?_) (fun k30 hk30 h => ?_)
      · refine ya_iinc (v5 + 1) rfl 5 rfl [(5, .int (v5 + 1)), (0, .ref (X.2.1 + a0)), (1, .int v1), (2, .int v2), (3, .int v3), (4, .int v4_30)] (by decide) rfl dX1_countComing_30 ?_
        refine ya_goto 6 (by decide) dX1_countComing_33 ?_
        refine ya_sub [(0, .ref (X.2.1 + a0)), (1, .int v1), (2, .int v2), (3, .int v3), (4, .int v4_30), (5, .int (v5 + 1))] [1, 2, 3, 4, 5, 0] rfl ?_
        exact ih _ _ h
      · refine ya_ifeq 30 (by decide) dX1_countComing_24 (fun c => ?_) (fun c => ?_)
        · replace h := ya_itet h c
          exact hk30 _ h
        · replace h := ya_itef h c
          refine ya_iinc (v4 + 1) rfl 4 rfl [(4, .int (v4 + 1)), (0, .ref (X.2.1 + a0)), (1, .int v1), (2, .int v2), (3, .int v3), (5, .int v5)] (by decide) rfl dX1_countComing_27 ?_
          refine ya_sub [(0, .ref (X.2.1 + a0)), (1, .int v1), (2, .int v2), (3, .int v3), (4, .int (v4 + 1)), (5, .int v5)] [1, 2, 3, 4, 0, 5] rfl ?_
          exact hk30 _ h
set_option maxRecDepth 20000 in
theorem c_X1_countComing {X : ya_X} {G : ya_G} {a0 : Nat} {v1 : Int32} {v2 : Int32} {v3 : Int32} {d : ya_D} {rr : Int32} (hG : ya_Bk ya_sh ya_ln G 0) (h_a0 : ya_Bk shX1 lnX1 G a0) (h : f_X1_countComing a0 v1 v2 v3 d = some rr) : ya_Ct X yX1_countComing Y_X1_countComing [.ref (X.2.1 + a0), .int v1, .int v2, .int v3] G d (some (.int rr), G, d) := by
  refine ya_ct (by decide +kernel) rfl rfl (Nat.le_of_ble_eq_true rfl) ?_
  unfold f_X1_countComing at h
  show ya_E X Y_X1_countComing (ya_M X (some (.int rr), G, d) 0 0) 0 [(0, .ref (X.2.1 + a0)), (1, .int v1), (2, .int v2), (3, .int v3)] [] G d 0 0
  refine ya_iconst 0 (by decide) dX1_countComing_0 ?_
  refine ya_istore [(4, .int 0), (0, .ref (X.2.1 + a0)), (1, .int v1), (2, .int v2), (3, .int v3)] (by decide) rfl dX1_countComing_1 ?_
  refine ya_iconst 0 (by decide) dX1_countComing_3 ?_
  refine ya_istore [(5, .int 0), (4, .int 0), (0, .ref (X.2.1 + a0)), (1, .int v1), (2, .int v2), (3, .int v3)] (by decide) rfl dX1_countComing_4 ?_
  refine ya_sub [(0, .ref (X.2.1 + a0)), (1, .int v1), (2, .int v2), (3, .int v3), (4, .int 0), (5, .int 0)] [2, 3, 4, 5, 1, 0] rfl ?_
  refine w_X1_countComing_L6 hG h_a0  ya_F _ _ h
set_option maxRecDepth 20000 in
theorem w_X1_allCome_L3 {X : ya_X} {G : ya_G} {a0 : Nat} {v1 : Int32} {v2 : Int32} {v3 : Int32} {v4 : Int32} {d : ya_D} {rr : Int32} (hG : ya_Bk ya_sh ya_ln G 0) (h_a0 : ya_Bk shX1 lnX1 G a0) : ∀ (n : Nat) (v5 : Int32), f_X1_allCome_L3 a0 v1 v2 v3 v4 d n v5 = some rr → ya_E X Y_X1_allCome (ya_M X (some (.int rr), G, d) 0 0) 3 [(0, .ref (X.2.1 + a0)), (1, .int v1), (2, .int v2), (3, .int v3), (4, .int v4), (5, .int v5)] [] G d 0 0 := by
  intro n
  induction n with
  | zero => intro v5 h; cases h
  | succ n ih =>
    intro v5 h
    rw [f_X1_allCome_L3] at h
    refine ya_iload 5 rfl dX1_allCome_3 ?_
    refine ya_aload_n 0 rfl dX1_allCome_5 ?_
    refine ya_getI fo_X1_30 (h_a0.o 0 rfl) (h_a0.lt 0 (by decide)) dX1_allCome_6 ?_
    refine ya_icmp_ge 43 (by decide) dX1_allCome_9 (fun c => ?_) (fun c => ?_)
    · replace h := ya_itet h c
      refine ya_iconst 1 (by decide) dX1_allCome_43 ?_
      cases h
      exact ya_zret .boolean rfl rfl rfl rfl (by decide) rfl (Nat.le_refl _) dX1_allCome_44
    · replace h := ya_itef h c
      refine ya_iload_n 1 rfl dX1_allCome_12 ?_
      refine ya_iload 5 rfl dX1_allCome_13 ?_
      refine ya_ishr dX1_allCome_15 ?_
      refine ya_iconst 1 (by decide) dX1_allCome_16 ?_
      refine ya_iand dX1_allCome_17 ?_
      refine ya_iconst 1 (by decide) dX1_allCome_18 ?_
      refine ya_j0_s h (ya_E X Y_X1_allCome (ya_M X (some (.int rr), G, d) 0 0) 37 [(0, .ref (X.2.1 + a0)), (1, .int v1), (2, .int v2), (3, .int v3), (4, .int v4), (5, .int v5)] [] G d 0 0) (fun h => ?_) (fun k37 hk37 h => ?_)
      · refine ya_iinc (v5 + 1) rfl 5 rfl [(5, .int (v5 + 1)), (0, .ref (X.2.1 + a0)), (1, .int v1), (2, .int v2), (3, .int v3), (4, .int v4)] (by decide) rfl dX1_allCome_37 ?_
        refine ya_goto 3 (by decide) dX1_allCome_40 ?_
        refine ya_sub [(0, .ref (X.2.1 + a0)), (1, .int v1), (2, .int v2), (3, .int v3), (4, .int v4), (5, .int (v5 + 1))] [1, 2, 3, 4, 5, 0] rfl ?_
        exact ih _ h
      · refine ya_icmp_ne 37 (by decide) dX1_allCome_19 (fun c => ?_) (fun c => ?_)
        · replace h := ya_itef h c
          exact hk37  h
        · replace h := ya_itet h c
          refine ya_aload_n 0 rfl dX1_allCome_22 ?_
          refine ya_iload 5 rfl dX1_allCome_23 ?_
          refine ya_iload_n 2 rfl dX1_allCome_25 ?_
          refine ya_iload_n 3 rfl dX1_allCome_26 ?_
          refine ya_iload 4 rfl dX1_allCome_27 ?_
          obtain ⟨x29, e29, h⟩ := ya_ob h
          refine ya_callVi (S := []) (c_X1_comes hG h_a0 e29) m_X1_comes ⟨rfl, rfl⟩ ml_X1_34 rfl ⟨Nat.le_of_ble_eq_true rfl, Nat.le_of_ble_eq_true rfl⟩ (Nat.le_of_ble_eq_true rfl) (h_a0.lt 0 (by decide)) (h_a0.o 0 rfl) (by decide) rfl rfl ⟨Nat.le_refl _, Nat.le_refl _⟩ dX1_allCome_29 rfl ?_
          refine ya_ifne 37 (by decide) dX1_allCome_32 (fun c => ?_) (fun c => ?_)
          · replace h := ya_itef h c
            exact hk37  h
          · replace h := ya_itet h c
            refine ya_iconst 0 (by decide) dX1_allCome_35 ?_
            cases h
            exact ya_zret .boolean rfl rfl rfl rfl (by decide) rfl (Nat.le_refl _) dX1_allCome_36
set_option maxRecDepth 20000 in
theorem c_X1_allCome {X : ya_X} {G : ya_G} {a0 : Nat} {v1 : Int32} {v2 : Int32} {v3 : Int32} {v4 : Int32} {d : ya_D} {rr : Int32} (hG : ya_Bk ya_sh ya_ln G 0) (h_a0 : ya_Bk shX1 lnX1 G a0) (h : f_X1_allCome a0 v1 v2 v3 v4 d = some rr) : ya_Ct X yX1_allCome Y_X1_allCome [.ref (X.2.1 + a0), .int v1, .int v2, .int v3, .int v4] G d (some (.int rr), G, d) := by
  refine ya_ct (by decide +kernel) rfl rfl (Nat.le_of_ble_eq_true rfl) ?_
  unfold f_X1_allCome at h
  show ya_E X Y_X1_allCome (ya_M X (some (.int rr), G, d) 0 0) 0 [(0, .ref (X.2.1 + a0)), (1, .int v1), (2, .int v2), (3, .int v3), (4, .int v4)] [] G d 0 0
  refine ya_iconst 0 (by decide) dX1_allCome_0 ?_
  refine ya_istore [(5, .int 0), (0, .ref (X.2.1 + a0)), (1, .int v1), (2, .int v2), (3, .int v3), (4, .int v4)] (by decide) rfl dX1_allCome_1 ?_
  refine ya_sub [(0, .ref (X.2.1 + a0)), (1, .int v1), (2, .int v2), (3, .int v3), (4, .int v4), (5, .int 0)] [1, 2, 3, 4, 5, 0] rfl ?_
  refine w_X1_allCome_L3 hG h_a0  ya_F _ h
set_option maxRecDepth 20000 in
theorem w_X1_wantsOf_L4 {X : ya_X} {G : ya_G} {a0 : Nat} {v1 : Int32} {d : ya_D} {rr : Int32} (hG : ya_Bk ya_sh ya_ln G 0) (h_a0 : ya_Bk shX1 lnX1 G a0) : ∀ (n : Nat) (v2 : Int32) (v3 : Int32), f_X1_wantsOf_L4 a0 v1 d n v2 v3 = some rr → ya_E X Y_X1_wantsOf (ya_M X (some (.int rr), G, d) 0 0) 4 [(0, .ref (X.2.1 + a0)), (1, .int v1), (2, .int v2), (3, .int v3)] [] G d 0 0 := by
  intro n
  induction n with
  | zero => intro v2 v3 h; cases h
  | succ n ih =>
    intro v2 v3 h
    rw [f_X1_wantsOf_L4] at h
    refine ya_iload_n 3 rfl dX1_wantsOf_4 ?_
    refine ya_aload_n 0 rfl dX1_wantsOf_5 ?_
    refine ya_getI fo_X1_30 (h_a0.o 0 rfl) (h_a0.lt 0 (by decide)) dX1_wantsOf_6 ?_
    refine ya_icmp_ge 36 (by decide) dX1_wantsOf_9 (fun c => ?_) (fun c => ?_)
    · replace h := ya_itet h c
      refine ya_iload_n 2 rfl dX1_wantsOf_36 ?_
      cases h
      exact ya_iret rfl rfl rfl rfl rfl (Nat.le_refl _) dX1_wantsOf_37
    · replace h := ya_itef h c
      refine ya_iload_n 1 rfl dX1_wantsOf_12 ?_
      refine ya_iload_n 3 rfl dX1_wantsOf_13 ?_
      refine ya_ishr dX1_wantsOf_14 ?_
      refine ya_iconst 1 (by decide) dX1_wantsOf_15 ?_
      refine ya_iand dX1_wantsOf_16 ?_
      refine ya_iconst 1 (by decide) dX1_wantsOf_17 ?_
      refine ya_j1_s h (fun v2_30 => ya_E X Y_X1_wantsOf (ya_M X (some (.int rr), G, d) 0 0) 30 [(0, .ref (X.2.1 + a0)), (1, .int v1), (2, .int v2_30), (3, .int v3)] [] G d 0 0) (fun v2_30 h => ?_) (fun k30 hk30 h => ?_)
      · refine ya_iinc (v3 + 1) rfl 3 rfl [(3, .int (v3 + 1)), (0, .ref (X.2.1 + a0)), (1, .int v1), (2, .int v2_30)] (by decide) rfl dX1_wantsOf_30 ?_
        refine ya_goto 4 (by decide) dX1_wantsOf_33 ?_
        refine ya_sub [(0, .ref (X.2.1 + a0)), (1, .int v1), (2, .int v2_30), (3, .int (v3 + 1))] [1, 2, 3, 0] rfl ?_
        exact ih _ _ h
      · refine ya_icmp_ne 30 (by decide) dX1_wantsOf_18 (fun c => ?_) (fun c => ?_)
        · replace h := ya_itef h c
          exact hk30 _ h
        · replace h := ya_itet h c
          refine ya_iload_n 2 rfl dX1_wantsOf_21 ?_
          refine ya_aload_n 0 rfl dX1_wantsOf_22 ?_
          refine ya_getR fo_X1_15 (h_a0.o 0 rfl) (h_a0.lt 0 (by decide)) (h_a0.l 1 rfl) dX1_wantsOf_23 ?_
          refine ya_iload_n 3 rfl dX1_wantsOf_26 ?_
          refine ya_iald (h_a0.s 2 rfl) (h_a0.lt 2 (by decide)) dX1_wantsOf_27 h (fun x27 h => ?_)
          refine ya_iadd dX1_wantsOf_28 ?_
          refine ya_istore_n [(2, .int (v2 + x27)), (0, .ref (X.2.1 + a0)), (1, .int v1), (3, .int v3)] (by decide) rfl dX1_wantsOf_29 ?_
          refine ya_sub [(0, .ref (X.2.1 + a0)), (1, .int v1), (2, .int (v2 + x27)), (3, .int v3)] [1, 2, 0, 3] rfl ?_
          exact hk30 _ h
set_option maxRecDepth 20000 in
theorem c_X1_wantsOf {X : ya_X} {G : ya_G} {a0 : Nat} {v1 : Int32} {d : ya_D} {rr : Int32} (hG : ya_Bk ya_sh ya_ln G 0) (h_a0 : ya_Bk shX1 lnX1 G a0) (h : f_X1_wantsOf a0 v1 d = some rr) : ya_Ct X yX1_wantsOf Y_X1_wantsOf [.ref (X.2.1 + a0), .int v1] G d (some (.int rr), G, d) := by
  refine ya_ct (by decide +kernel) rfl rfl (Nat.le_of_ble_eq_true rfl) ?_
  unfold f_X1_wantsOf at h
  show ya_E X Y_X1_wantsOf (ya_M X (some (.int rr), G, d) 0 0) 0 [(0, .ref (X.2.1 + a0)), (1, .int v1)] [] G d 0 0
  refine ya_iconst 0 (by decide) dX1_wantsOf_0 ?_
  refine ya_istore_n [(2, .int 0), (0, .ref (X.2.1 + a0)), (1, .int v1)] (by decide) rfl dX1_wantsOf_1 ?_
  refine ya_iconst 0 (by decide) dX1_wantsOf_2 ?_
  refine ya_istore_n [(3, .int 0), (2, .int 0), (0, .ref (X.2.1 + a0)), (1, .int v1)] (by decide) rfl dX1_wantsOf_3 ?_
  refine ya_sub [(0, .ref (X.2.1 + a0)), (1, .int v1), (2, .int 0), (3, .int 0)] [2, 3, 1, 0] rfl ?_
  refine w_X1_wantsOf_L4 hG h_a0  ya_F _ _ h
set_option maxRecDepth 20000 in
theorem c_X1_wantsInAll {X : ya_X} {G : ya_G} {a0 : Nat} {v1 : Int32} {d : ya_D} {rr : Int32} (hG : ya_Bk ya_sh ya_ln G 0) (h_a0 : ya_Bk shX1 lnX1 G a0) (h : f_X1_wantsInAll a0 v1 d = some rr) : ya_Ct X yX1_wantsInAll Y_X1_wantsInAll [.ref (X.2.1 + a0), .int v1] G d (some (.int rr), G, d) := by
  refine ya_ct (by decide +kernel) rfl rfl (Nat.le_of_ble_eq_true rfl) ?_
  unfold f_X1_wantsInAll at h
  show ya_E X Y_X1_wantsInAll (ya_M X (some (.int rr), G, d) 0 0) 0 [(0, .ref (X.2.1 + a0)), (1, .int v1)] [] G d 0 0
  refine ya_aload_n 0 rfl dX1_wantsInAll_0 ?_
  refine ya_getR fo_X1_15 (h_a0.o 0 rfl) (h_a0.lt 0 (by decide)) (h_a0.l 1 rfl) dX1_wantsInAll_1 ?_
  refine ya_iload_n 1 rfl dX1_wantsInAll_4 ?_
  refine ya_iald (h_a0.s 2 rfl) (h_a0.lt 2 (by decide)) dX1_wantsInAll_5 h (fun x5 h => ?_)
  refine ya_aload_n 0 rfl dX1_wantsInAll_6 ?_
  refine ya_getR fo_X1_24 (h_a0.o 0 rfl) (h_a0.lt 0 (by decide)) (h_a0.l 4 rfl) dX1_wantsInAll_7 ?_
  refine ya_iload_n 1 rfl dX1_wantsInAll_10 ?_
  refine ya_iald (h_a0.s 5 rfl) (h_a0.lt 5 (by decide)) dX1_wantsInAll_11 h (fun x11 h => ?_)
  refine ya_aload_n 0 rfl dX1_wantsInAll_12 ?_
  refine ya_getR fo_X1_21 (h_a0.o 0 rfl) (h_a0.lt 0 (by decide)) (h_a0.l 3 rfl) dX1_wantsInAll_13 ?_
  refine ya_iload_n 1 rfl dX1_wantsInAll_16 ?_
  refine ya_iald (h_a0.s 4 rfl) (h_a0.lt 4 (by decide)) dX1_wantsInAll_17 h (fun x17 h => ?_)
  refine ya_isub dX1_wantsInAll_18 ?_
  refine ya_iconst 1 (by decide) dX1_wantsInAll_19 ?_
  refine ya_iadd dX1_wantsInAll_20 ?_
  refine ya_imul dX1_wantsInAll_21 ?_
  cases h
  exact ya_iret rfl rfl rfl rfl rfl (Nat.le_refl _) dX1_wantsInAll_22
set_option maxRecDepth 20000 in
theorem c_X1_take {X : ya_X} {G : ya_G} {a0 : Nat} {a1 : Nat} {d : ya_D} {rr : ya_D} (hG : ya_Bk ya_sh ya_ln G 0) (h_a0 : ya_Bk shX1 lnX1 G a0) (h_a1 : ya_Bk shX1 lnX1 G a1) (h : f_X1_take a0 a1 d = some rr) : ya_Ct X yX1_take Y_X1_take [.ref (X.2.1 + a0), .ref (X.2.1 + a1)] G d (none, G, rr) := by
  refine ya_ct (by decide +kernel) rfl rfl (Nat.le_of_ble_eq_true rfl) ?_
  unfold f_X1_take at h
  show ya_E X Y_X1_take (ya_M X (none, G, rr) 0 0) 0 [(0, .ref (X.2.1 + a0)), (1, .ref (X.2.1 + a1))] [] G d 0 0
  refine ya_aload_n 0 rfl dX1_take_0 ?_
  refine ya_aload_n 1 rfl dX1_take_1 ?_
  refine ya_getI fo_X1_30 (h_a1.o 0 rfl) (h_a1.lt 0 (by decide)) dX1_take_2 ?_
  refine ya_putIb fo_X1_30 (h_a0.o 0 rfl) (h_a0.lt 0 (by decide)) .int pf_X1_0 rfl rfl dX1_take_5 h (fun d5 h => ?_)
  refine ya_aload_n 1 rfl dX1_take_8 ?_
  refine ya_getR fo_X1_9 (h_a1.o 0 rfl) (h_a1.lt 0 (by decide)) (h_a1.l 0 rfl) dX1_take_9 ?_
  refine ya_iconst 0 (by decide) dX1_take_12 ?_
  refine ya_aload_n 0 rfl dX1_take_13 ?_
  refine ya_getR fo_X1_9 (h_a0.o 0 rfl) (h_a0.lt 0 (by decide)) (h_a0.l 0 rfl) dX1_take_14 ?_
  refine ya_iconst 0 (by decide) dX1_take_17 ?_
  refine ya_aload_n 0 rfl dX1_take_18 ?_
  refine ya_getR fo_X1_9 (h_a0.o 0 rfl) (h_a0.lt 0 (by decide)) (h_a0.l 0 rfl) dX1_take_19 ?_
  refine ya_alen (v := 7) (h_a0.s 1 rfl) (by decide) (by decide) (h_a0.lt 1 (by decide)) (by decide) dX1_take_22 ?_
  refine ya_copyI (h_a1.s 1 rfl) (h_a1.lt 1 (by decide)) (h_a0.s 1 rfl) (h_a0.lt 1 (by decide)) ml_X1_38 wm_cp1 wm_cp2 wm_cp3 (by decide) (Nat.le_of_ble_eq_true rfl) dX1_take_23 h (fun d23 h => ?_)
  refine ya_aload_n 1 rfl dX1_take_26 ?_
  refine ya_getR fo_X1_15 (h_a1.o 0 rfl) (h_a1.lt 0 (by decide)) (h_a1.l 1 rfl) dX1_take_27 ?_
  refine ya_iconst 0 (by decide) dX1_take_30 ?_
  refine ya_aload_n 0 rfl dX1_take_31 ?_
  refine ya_getR fo_X1_15 (h_a0.o 0 rfl) (h_a0.lt 0 (by decide)) (h_a0.l 1 rfl) dX1_take_32 ?_
  refine ya_iconst 0 (by decide) dX1_take_35 ?_
  refine ya_aload_n 0 rfl dX1_take_36 ?_
  refine ya_getR fo_X1_15 (h_a0.o 0 rfl) (h_a0.lt 0 (by decide)) (h_a0.l 1 rfl) dX1_take_37 ?_
  refine ya_alen (v := 7) (h_a0.s 2 rfl) (by decide) (by decide) (h_a0.lt 2 (by decide)) (by decide) dX1_take_40 ?_
  refine ya_copyI (h_a1.s 2 rfl) (h_a1.lt 2 (by decide)) (h_a0.s 2 rfl) (h_a0.lt 2 (by decide)) ml_X1_38 wm_cp1 wm_cp2 wm_cp3 (by decide) (Nat.le_of_ble_eq_true rfl) dX1_take_41 h (fun d41 h => ?_)
  refine ya_aload_n 1 rfl dX1_take_44 ?_
  refine ya_getR fo_X1_18 (h_a1.o 0 rfl) (h_a1.lt 0 (by decide)) (h_a1.l 2 rfl) dX1_take_45 ?_
  refine ya_iconst 0 (by decide) dX1_take_48 ?_
  refine ya_aload_n 0 rfl dX1_take_49 ?_
  refine ya_getR fo_X1_18 (h_a0.o 0 rfl) (h_a0.lt 0 (by decide)) (h_a0.l 2 rfl) dX1_take_50 ?_
  refine ya_iconst 0 (by decide) dX1_take_53 ?_
  refine ya_aload_n 0 rfl dX1_take_54 ?_
  refine ya_getR fo_X1_18 (h_a0.o 0 rfl) (h_a0.lt 0 (by decide)) (h_a0.l 2 rfl) dX1_take_55 ?_
  refine ya_alen (v := 7) (h_a0.s 3 rfl) (by decide) (by decide) (h_a0.lt 3 (by decide)) (by decide) dX1_take_58 ?_
  refine ya_copyI (h_a1.s 3 rfl) (h_a1.lt 3 (by decide)) (h_a0.s 3 rfl) (h_a0.lt 3 (by decide)) ml_X1_38 wm_cp1 wm_cp2 wm_cp3 (by decide) (Nat.le_of_ble_eq_true rfl) dX1_take_59 h (fun d59 h => ?_)
  refine ya_aload_n 1 rfl dX1_take_62 ?_
  refine ya_getR fo_X1_21 (h_a1.o 0 rfl) (h_a1.lt 0 (by decide)) (h_a1.l 3 rfl) dX1_take_63 ?_
  refine ya_iconst 0 (by decide) dX1_take_66 ?_
  refine ya_aload_n 0 rfl dX1_take_67 ?_
  refine ya_getR fo_X1_21 (h_a0.o 0 rfl) (h_a0.lt 0 (by decide)) (h_a0.l 3 rfl) dX1_take_68 ?_
  refine ya_iconst 0 (by decide) dX1_take_71 ?_
  refine ya_aload_n 0 rfl dX1_take_72 ?_
  refine ya_getR fo_X1_21 (h_a0.o 0 rfl) (h_a0.lt 0 (by decide)) (h_a0.l 3 rfl) dX1_take_73 ?_
  refine ya_alen (v := 7) (h_a0.s 4 rfl) (by decide) (by decide) (h_a0.lt 4 (by decide)) (by decide) dX1_take_76 ?_
  refine ya_copyI (h_a1.s 4 rfl) (h_a1.lt 4 (by decide)) (h_a0.s 4 rfl) (h_a0.lt 4 (by decide)) ml_X1_38 wm_cp1 wm_cp2 wm_cp3 (by decide) (Nat.le_of_ble_eq_true rfl) dX1_take_77 h (fun d77 h => ?_)
  refine ya_aload_n 1 rfl dX1_take_80 ?_
  refine ya_getR fo_X1_24 (h_a1.o 0 rfl) (h_a1.lt 0 (by decide)) (h_a1.l 4 rfl) dX1_take_81 ?_
  refine ya_iconst 0 (by decide) dX1_take_84 ?_
  refine ya_aload_n 0 rfl dX1_take_85 ?_
  refine ya_getR fo_X1_24 (h_a0.o 0 rfl) (h_a0.lt 0 (by decide)) (h_a0.l 4 rfl) dX1_take_86 ?_
  refine ya_iconst 0 (by decide) dX1_take_89 ?_
  refine ya_aload_n 0 rfl dX1_take_90 ?_
  refine ya_getR fo_X1_24 (h_a0.o 0 rfl) (h_a0.lt 0 (by decide)) (h_a0.l 4 rfl) dX1_take_91 ?_
  refine ya_alen (v := 7) (h_a0.s 5 rfl) (by decide) (by decide) (h_a0.lt 5 (by decide)) (by decide) dX1_take_94 ?_
  refine ya_copyI (h_a1.s 5 rfl) (h_a1.lt 5 (by decide)) (h_a0.s 5 rfl) (h_a0.lt 5 (by decide)) ml_X1_38 wm_cp1 wm_cp2 wm_cp3 (by decide) (Nat.le_of_ble_eq_true rfl) dX1_take_95 h (fun d95 h => ?_)
  refine ya_aload_n 1 rfl dX1_take_98 ?_
  refine ya_getR fo_X1_27 (h_a1.o 0 rfl) (h_a1.lt 0 (by decide)) (h_a1.l 5 rfl) dX1_take_99 ?_
  refine ya_iconst 0 (by decide) dX1_take_102 ?_
  refine ya_aload_n 0 rfl dX1_take_103 ?_
  refine ya_getR fo_X1_27 (h_a0.o 0 rfl) (h_a0.lt 0 (by decide)) (h_a0.l 5 rfl) dX1_take_104 ?_
  refine ya_iconst 0 (by decide) dX1_take_107 ?_
  refine ya_aload_n 0 rfl dX1_take_108 ?_
  refine ya_getR fo_X1_27 (h_a0.o 0 rfl) (h_a0.lt 0 (by decide)) (h_a0.l 5 rfl) dX1_take_109 ?_
  refine ya_alen (v := 7) (h_a0.s 6 rfl) (by decide) (by decide) (h_a0.lt 6 (by decide)) (by decide) dX1_take_112 ?_
  refine ya_copyI (h_a1.s 6 rfl) (h_a1.lt 6 (by decide)) (h_a0.s 6 rfl) (h_a0.lt 6 (by decide)) ml_X1_38 wm_cp1 wm_cp2 wm_cp3 (by decide) (Nat.le_of_ble_eq_true rfl) dX1_take_113 h (fun d113 h => ?_)
  cases h
  exact ya_vret rfl rfl rfl rfl rfl (Nat.le_refl _) dX1_take_116
set_option maxRecDepth 20000 in
theorem c_X2_empty {X : ya_X} {G : ya_G} {a0 : Nat} {d : ya_D} {rr : ya_D} (hG : ya_Bk ya_sh ya_ln G 0) (h_a0 : ya_Bk shX2 lnX2 G a0) (h : f_X2_empty a0 d = some rr) : ya_Ct X yX2_empty Y_X2_empty [.ref (X.2.1 + a0)] G d (none, G, rr) := by
  refine ya_ct (by decide +kernel) rfl rfl (Nat.le_of_ble_eq_true rfl) ?_
  unfold f_X2_empty at h
  show ya_E X Y_X2_empty (ya_M X (none, G, rr) 0 0) 0 [(0, .ref (X.2.1 + a0))] [] G d 0 0
  refine ya_aload_n 0 rfl dX2_empty_0 ?_
  refine ya_iconst 0 (by decide) dX2_empty_1 ?_
  refine ya_putIb fo_X2_30 (h_a0.o 0 rfl) (h_a0.lt 0 (by decide)) .int pf_X2_0 rfl rfl dX2_empty_2 h (fun d2 h => ?_)
  refine ya_aload_n 0 rfl dX2_empty_5 ?_
  refine ya_iconst 0 (by decide) dX2_empty_6 ?_
  refine ya_putIb fo_X2_34 (h_a0.o 0 rfl) (h_a0.lt 0 (by decide)) .int pf_X2_1 rfl rfl dX2_empty_7 h (fun d7 h => ?_)
  refine ya_aload_n 0 rfl dX2_empty_10 ?_
  refine ya_iconst 0 (by decide) dX2_empty_11 ?_
  refine ya_putIb fo_X2_37 (h_a0.o 0 rfl) (h_a0.lt 0 (by decide)) .int pf_X2_2 rfl rfl dX2_empty_12 h (fun d12 h => ?_)
  refine ya_aload_n 0 rfl dX2_empty_15 ?_
  refine ya_getR fo_X2_10 (h_a0.o 0 rfl) (h_a0.lt 0 (by decide)) (h_a0.l 4 rfl) dX2_empty_16 ?_
  refine ya_iconst 0 (by decide) dX2_empty_19 ?_
  refine ya_putIb fo_X2_40 (h_a0.o 1 rfl) (h_a0.lt 1 (by decide)) .int pf_X8_0 rfl rfl dX2_empty_20 h (fun d20 h => ?_)
  refine ya_aload_n 0 rfl dX2_empty_23 ?_
  refine ya_getR fo_X2_19 (h_a0.o 0 rfl) (h_a0.lt 0 (by decide)) (h_a0.l 9 rfl) dX2_empty_24 ?_
  refine ya_iconst 0 (by decide) dX2_empty_27 ?_
  refine ya_putIb fo_X2_43 (h_a0.o 6 rfl) (h_a0.lt 6 (by decide)) .int pf_X6_0 rfl rfl dX2_empty_28 h (fun d28 h => ?_)
  refine ya_aload_n 0 rfl dX2_empty_31 ?_
  refine ya_getR fo_X2_26 (h_a0.o 0 rfl) (h_a0.lt 0 (by decide)) (h_a0.l 16 rfl) dX2_empty_32 ?_
  refine ya_iconst 0 (by decide) dX2_empty_35 ?_
  refine ya_putIb fo_X2_44 (h_a0.o 11 rfl) (h_a0.lt 11 (by decide)) .int pf_X1_0 rfl rfl dX2_empty_36 h (fun d36 h => ?_)
  cases h
  exact ya_vret rfl rfl rfl rfl rfl (Nat.le_refl _) dX2_empty_39
set_option maxRecDepth 20000 in
theorem c_X8_take {X : ya_X} {G : ya_G} {a0 : Nat} {a1 : Nat} {d : ya_D} {rr : ya_D} (hG : ya_Bk ya_sh ya_ln G 0) (h_a0 : ya_Bk shX8 lnX8 G a0) (h_a1 : ya_Bk shX8 lnX8 G a1) (h : f_X8_take a0 a1 d = some rr) : ya_Ct X yX8_take Y_X8_take [.ref (X.2.1 + a0), .ref (X.2.1 + a1)] G d (none, G, rr) := by
  refine ya_ct (by decide +kernel) rfl rfl (Nat.le_of_ble_eq_true rfl) ?_
  unfold f_X8_take at h
  show ya_E X Y_X8_take (ya_M X (none, G, rr) 0 0) 0 [(0, .ref (X.2.1 + a0)), (1, .ref (X.2.1 + a1))] [] G d 0 0
  refine ya_aload_n 0 rfl dX8_take_0 ?_
  refine ya_aload_n 1 rfl dX8_take_1 ?_
  refine ya_getI fo_X8_24 (h_a1.o 0 rfl) (h_a1.lt 0 (by decide)) dX8_take_2 ?_
  refine ya_putIb fo_X8_24 (h_a0.o 0 rfl) (h_a0.lt 0 (by decide)) .int pf_X8_0 rfl rfl dX8_take_5 h (fun d5 h => ?_)
  refine ya_aload_n 1 rfl dX8_take_8 ?_
  refine ya_getR fo_X8_9 (h_a1.o 0 rfl) (h_a1.lt 0 (by decide)) (h_a1.l 0 rfl) dX8_take_9 ?_
  refine ya_iconst 0 (by decide) dX8_take_12 ?_
  refine ya_aload_n 0 rfl dX8_take_13 ?_
  refine ya_getR fo_X8_9 (h_a0.o 0 rfl) (h_a0.lt 0 (by decide)) (h_a0.l 0 rfl) dX8_take_14 ?_
  refine ya_iconst 0 (by decide) dX8_take_17 ?_
  refine ya_aload_n 0 rfl dX8_take_18 ?_
  refine ya_getR fo_X8_9 (h_a0.o 0 rfl) (h_a0.lt 0 (by decide)) (h_a0.l 0 rfl) dX8_take_19 ?_
  refine ya_alen (v := 5) (h_a0.s 1 rfl) (by decide) (by decide) (h_a0.lt 1 (by decide)) (by decide) dX8_take_22 ?_
  refine ya_copyI (h_a1.s 1 rfl) (h_a1.lt 1 (by decide)) (h_a0.s 1 rfl) (h_a0.lt 1 (by decide)) ml_X8_32 wm_cp1 wm_cp2 wm_cp3 (by decide) (Nat.le_of_ble_eq_true rfl) dX8_take_23 h (fun d23 h => ?_)
  refine ya_aload_n 1 rfl dX8_take_26 ?_
  refine ya_getR fo_X8_15 (h_a1.o 0 rfl) (h_a1.lt 0 (by decide)) (h_a1.l 1 rfl) dX8_take_27 ?_
  refine ya_iconst 0 (by decide) dX8_take_30 ?_
  refine ya_aload_n 0 rfl dX8_take_31 ?_
  refine ya_getR fo_X8_15 (h_a0.o 0 rfl) (h_a0.lt 0 (by decide)) (h_a0.l 1 rfl) dX8_take_32 ?_
  refine ya_iconst 0 (by decide) dX8_take_35 ?_
  refine ya_aload_n 0 rfl dX8_take_36 ?_
  refine ya_getR fo_X8_15 (h_a0.o 0 rfl) (h_a0.lt 0 (by decide)) (h_a0.l 1 rfl) dX8_take_37 ?_
  refine ya_alen (v := 100) (h_a0.s 2 rfl) (by decide) (by decide) (h_a0.lt 2 (by decide)) (by decide) dX8_take_40 ?_
  refine ya_copyI (h_a1.s 2 rfl) (h_a1.lt 2 (by decide)) (h_a0.s 2 rfl) (h_a0.lt 2 (by decide)) ml_X8_32 wm_cp1 wm_cp2 wm_cp3 (by decide) (Nat.le_of_ble_eq_true rfl) dX8_take_41 h (fun d41 h => ?_)
  refine ya_aload_n 1 rfl dX8_take_44 ?_
  refine ya_getR fo_X8_18 (h_a1.o 0 rfl) (h_a1.lt 0 (by decide)) (h_a1.l 2 rfl) dX8_take_45 ?_
  refine ya_iconst 0 (by decide) dX8_take_48 ?_
  refine ya_aload_n 0 rfl dX8_take_49 ?_
  refine ya_getR fo_X8_18 (h_a0.o 0 rfl) (h_a0.lt 0 (by decide)) (h_a0.l 2 rfl) dX8_take_50 ?_
  refine ya_iconst 0 (by decide) dX8_take_53 ?_
  refine ya_aload_n 0 rfl dX8_take_54 ?_
  refine ya_getR fo_X8_18 (h_a0.o 0 rfl) (h_a0.lt 0 (by decide)) (h_a0.l 2 rfl) dX8_take_55 ?_
  refine ya_alen (v := 100) (h_a0.s 3 rfl) (by decide) (by decide) (h_a0.lt 3 (by decide)) (by decide) dX8_take_58 ?_
  refine ya_copyI (h_a1.s 3 rfl) (h_a1.lt 3 (by decide)) (h_a0.s 3 rfl) (h_a0.lt 3 (by decide)) ml_X8_32 wm_cp1 wm_cp2 wm_cp3 (by decide) (Nat.le_of_ble_eq_true rfl) dX8_take_59 h (fun d59 h => ?_)
  refine ya_aload_n 1 rfl dX8_take_62 ?_
  refine ya_getR fo_X8_21 (h_a1.o 0 rfl) (h_a1.lt 0 (by decide)) (h_a1.l 3 rfl) dX8_take_63 ?_
  refine ya_iconst 0 (by decide) dX8_take_66 ?_
  refine ya_aload_n 0 rfl dX8_take_67 ?_
  refine ya_getR fo_X8_21 (h_a0.o 0 rfl) (h_a0.lt 0 (by decide)) (h_a0.l 3 rfl) dX8_take_68 ?_
  refine ya_iconst 0 (by decide) dX8_take_71 ?_
  refine ya_aload_n 0 rfl dX8_take_72 ?_
  refine ya_getR fo_X8_21 (h_a0.o 0 rfl) (h_a0.lt 0 (by decide)) (h_a0.l 3 rfl) dX8_take_73 ?_
  refine ya_alen (v := 100) (h_a0.s 4 rfl) (by decide) (by decide) (h_a0.lt 4 (by decide)) (by decide) dX8_take_76 ?_
  refine ya_copyI (h_a1.s 4 rfl) (h_a1.lt 4 (by decide)) (h_a0.s 4 rfl) (h_a0.lt 4 (by decide)) ml_X8_32 wm_cp1 wm_cp2 wm_cp3 (by decide) (Nat.le_of_ble_eq_true rfl) dX8_take_77 h (fun d77 h => ?_)
  cases h
  exact ya_vret rfl rfl rfl rfl rfl (Nat.le_refl _) dX8_take_80
set_option maxRecDepth 20000 in
theorem c_X6_take {X : ya_X} {G : ya_G} {a0 : Nat} {a1 : Nat} {d : ya_D} {rr : ya_D} (hG : ya_Bk ya_sh ya_ln G 0) (h_a0 : ya_Bk shX6 lnX6 G a0) (h_a1 : ya_Bk shX6 lnX6 G a1) (h : f_X6_take a0 a1 d = some rr) : ya_Ct X yX6_take Y_X6_take [.ref (X.2.1 + a0), .ref (X.2.1 + a1)] G d (none, G, rr) := by
  refine ya_ct (by decide +kernel) rfl rfl (Nat.le_of_ble_eq_true rfl) ?_
  unfold f_X6_take at h
  show ya_E X Y_X6_take (ya_M X (none, G, rr) 0 0) 0 [(0, .ref (X.2.1 + a0)), (1, .ref (X.2.1 + a1))] [] G d 0 0
  refine ya_aload_n 0 rfl dX6_take_0 ?_
  refine ya_aload_n 1 rfl dX6_take_1 ?_
  refine ya_getI fo_X6_24 (h_a1.o 0 rfl) (h_a1.lt 0 (by decide)) dX6_take_2 ?_
  refine ya_putIb fo_X6_24 (h_a0.o 0 rfl) (h_a0.lt 0 (by decide)) .int pf_X6_0 rfl rfl dX6_take_5 h (fun d5 h => ?_)
  refine ya_aload_n 1 rfl dX6_take_8 ?_
  refine ya_getR fo_X6_9 (h_a1.o 0 rfl) (h_a1.lt 0 (by decide)) (h_a1.l 0 rfl) dX6_take_9 ?_
  refine ya_iconst 0 (by decide) dX6_take_12 ?_
  refine ya_aload_n 0 rfl dX6_take_13 ?_
  refine ya_getR fo_X6_9 (h_a0.o 0 rfl) (h_a0.lt 0 (by decide)) (h_a0.l 0 rfl) dX6_take_14 ?_
  refine ya_iconst 0 (by decide) dX6_take_17 ?_
  refine ya_aload_n 0 rfl dX6_take_18 ?_
  refine ya_getR fo_X6_9 (h_a0.o 0 rfl) (h_a0.lt 0 (by decide)) (h_a0.l 0 rfl) dX6_take_19 ?_
  refine ya_alen (v := 5) (h_a0.s 1 rfl) (by decide) (by decide) (h_a0.lt 1 (by decide)) (by decide) dX6_take_22 ?_
  refine ya_copyI (h_a1.s 1 rfl) (h_a1.lt 1 (by decide)) (h_a0.s 1 rfl) (h_a0.lt 1 (by decide)) ml_X6_32 wm_cp1 wm_cp2 wm_cp3 (by decide) (Nat.le_of_ble_eq_true rfl) dX6_take_23 h (fun d23 h => ?_)
  refine ya_aload_n 1 rfl dX6_take_26 ?_
  refine ya_getR fo_X6_15 (h_a1.o 0 rfl) (h_a1.lt 0 (by decide)) (h_a1.l 1 rfl) dX6_take_27 ?_
  refine ya_iconst 0 (by decide) dX6_take_30 ?_
  refine ya_aload_n 0 rfl dX6_take_31 ?_
  refine ya_getR fo_X6_15 (h_a0.o 0 rfl) (h_a0.lt 0 (by decide)) (h_a0.l 1 rfl) dX6_take_32 ?_
  refine ya_iconst 0 (by decide) dX6_take_35 ?_
  refine ya_aload_n 0 rfl dX6_take_36 ?_
  refine ya_getR fo_X6_15 (h_a0.o 0 rfl) (h_a0.lt 0 (by decide)) (h_a0.l 1 rfl) dX6_take_37 ?_
  refine ya_alen (v := 5) (h_a0.s 2 rfl) (by decide) (by decide) (h_a0.lt 2 (by decide)) (by decide) dX6_take_40 ?_
  refine ya_copyI (h_a1.s 2 rfl) (h_a1.lt 2 (by decide)) (h_a0.s 2 rfl) (h_a0.lt 2 (by decide)) ml_X6_32 wm_cp1 wm_cp2 wm_cp3 (by decide) (Nat.le_of_ble_eq_true rfl) dX6_take_41 h (fun d41 h => ?_)
  refine ya_aload_n 1 rfl dX6_take_44 ?_
  refine ya_getR fo_X6_18 (h_a1.o 0 rfl) (h_a1.lt 0 (by decide)) (h_a1.l 2 rfl) dX6_take_45 ?_
  refine ya_iconst 0 (by decide) dX6_take_48 ?_
  refine ya_aload_n 0 rfl dX6_take_49 ?_
  refine ya_getR fo_X6_18 (h_a0.o 0 rfl) (h_a0.lt 0 (by decide)) (h_a0.l 2 rfl) dX6_take_50 ?_
  refine ya_iconst 0 (by decide) dX6_take_53 ?_
  refine ya_aload_n 0 rfl dX6_take_54 ?_
  refine ya_getR fo_X6_18 (h_a0.o 0 rfl) (h_a0.lt 0 (by decide)) (h_a0.l 2 rfl) dX6_take_55 ?_
  refine ya_alen (v := 5) (h_a0.s 3 rfl) (by decide) (by decide) (h_a0.lt 3 (by decide)) (by decide) dX6_take_58 ?_
  refine ya_copyI (h_a1.s 3 rfl) (h_a1.lt 3 (by decide)) (h_a0.s 3 rfl) (h_a0.lt 3 (by decide)) ml_X6_32 wm_cp1 wm_cp2 wm_cp3 (by decide) (Nat.le_of_ble_eq_true rfl) dX6_take_59 h (fun d59 h => ?_)
  refine ya_aload_n 1 rfl dX6_take_62 ?_
  refine ya_getR fo_X6_21 (h_a1.o 0 rfl) (h_a1.lt 0 (by decide)) (h_a1.l 3 rfl) dX6_take_63 ?_
  refine ya_iconst 0 (by decide) dX6_take_66 ?_
  refine ya_aload_n 0 rfl dX6_take_67 ?_
  refine ya_getR fo_X6_21 (h_a0.o 0 rfl) (h_a0.lt 0 (by decide)) (h_a0.l 3 rfl) dX6_take_68 ?_
  refine ya_iconst 0 (by decide) dX6_take_71 ?_
  refine ya_aload_n 0 rfl dX6_take_72 ?_
  refine ya_getR fo_X6_21 (h_a0.o 0 rfl) (h_a0.lt 0 (by decide)) (h_a0.l 3 rfl) dX6_take_73 ?_
  refine ya_alen (v := 100) (h_a0.s 4 rfl) (by decide) (by decide) (h_a0.lt 4 (by decide)) (by decide) dX6_take_76 ?_
  refine ya_copyI (h_a1.s 4 rfl) (h_a1.lt 4 (by decide)) (h_a0.s 4 rfl) (h_a0.lt 4 (by decide)) ml_X6_32 wm_cp1 wm_cp2 wm_cp3 (by decide) (Nat.le_of_ble_eq_true rfl) dX6_take_77 h (fun d77 h => ?_)
  cases h
  exact ya_vret rfl rfl rfl rfl rfl (Nat.le_refl _) dX6_take_80
set_option maxRecDepth 20000 in
theorem c_X2_take {X : ya_X} {G : ya_G} {a0 : Nat} {a1 : Nat} {d : ya_D} {rr : ya_D} (hG : ya_Bk ya_sh ya_ln G 0) (h_a0 : ya_Bk shX2 lnX2 G a0) (h_a1 : ya_Bk shX2 lnX2 G a1) (h : f_X2_take a0 a1 d = some rr) : ya_Ct X yX2_take Y_X2_take [.ref (X.2.1 + a0), .ref (X.2.1 + a1)] G d (none, G, rr) := by
  refine ya_ct (by decide +kernel) rfl rfl (Nat.le_of_ble_eq_true rfl) ?_
  unfold f_X2_take at h
  show ya_E X Y_X2_take (ya_M X (none, G, rr) 0 0) 0 [(0, .ref (X.2.1 + a0)), (1, .ref (X.2.1 + a1))] [] G d 0 0
  refine ya_aload_n 0 rfl dX2_take_0 ?_
  refine ya_aload_n 1 rfl dX2_take_1 ?_
  refine ya_getI fo_X2_30 (h_a1.o 0 rfl) (h_a1.lt 0 (by decide)) dX2_take_2 ?_
  refine ya_putIb fo_X2_30 (h_a0.o 0 rfl) (h_a0.lt 0 (by decide)) .int pf_X2_0 rfl rfl dX2_take_5 h (fun d5 h => ?_)
  refine ya_aload_n 0 rfl dX2_take_8 ?_
  refine ya_aload_n 1 rfl dX2_take_9 ?_
  refine ya_getI fo_X2_34 (h_a1.o 0 rfl) (h_a1.lt 0 (by decide)) dX2_take_10 ?_
  refine ya_putIb fo_X2_34 (h_a0.o 0 rfl) (h_a0.lt 0 (by decide)) .int pf_X2_1 rfl rfl dX2_take_13 h (fun d13 h => ?_)
  refine ya_aload_n 0 rfl dX2_take_16 ?_
  refine ya_aload_n 1 rfl dX2_take_17 ?_
  refine ya_getI fo_X2_37 (h_a1.o 0 rfl) (h_a1.lt 0 (by decide)) dX2_take_18 ?_
  refine ya_putIb fo_X2_37 (h_a0.o 0 rfl) (h_a0.lt 0 (by decide)) .int pf_X2_2 rfl rfl dX2_take_21 h (fun d21 h => ?_)
  refine ya_aload_n 0 rfl dX2_take_24 ?_
  refine ya_getR fo_X2_10 (h_a0.o 0 rfl) (h_a0.lt 0 (by decide)) (h_a0.l 4 rfl) dX2_take_25 ?_
  refine ya_aload_n 1 rfl dX2_take_28 ?_
  refine ya_getR fo_X2_10 (h_a1.o 0 rfl) (h_a1.lt 0 (by decide)) (h_a1.l 4 rfl) dX2_take_29 ?_
  obtain ⟨d32, e32, h⟩ := ya_ob h
  refine ya_callVv (S := []) (c_X8_take hG (bk_X2_1 h_a0) (bk_X2_1 h_a1) e32) m_X8_take ⟨rfl, rfl⟩ ml_X2_45 rfl ⟨Nat.le_of_ble_eq_true rfl, Nat.le_of_ble_eq_true rfl⟩ (Nat.le_of_ble_eq_true rfl) (h_a0.lt 1 (by decide)) (h_a0.o 1 rfl) (by decide) rfl rfl ⟨Nat.le_refl _, Nat.le_refl _⟩ dX2_take_32 rfl ?_
  refine ya_aload_n 0 rfl dX2_take_35 ?_
  refine ya_getR fo_X2_19 (h_a0.o 0 rfl) (h_a0.lt 0 (by decide)) (h_a0.l 9 rfl) dX2_take_36 ?_
  refine ya_aload_n 1 rfl dX2_take_39 ?_
  refine ya_getR fo_X2_19 (h_a1.o 0 rfl) (h_a1.lt 0 (by decide)) (h_a1.l 9 rfl) dX2_take_40 ?_
  obtain ⟨d43, e43, h⟩ := ya_ob h
  refine ya_callVv (S := []) (c_X6_take hG (bk_X2_6 h_a0) (bk_X2_6 h_a1) e43) m_X6_take ⟨rfl, rfl⟩ ml_X2_49 rfl ⟨Nat.le_of_ble_eq_true rfl, Nat.le_of_ble_eq_true rfl⟩ (Nat.le_of_ble_eq_true rfl) (h_a0.lt 6 (by decide)) (h_a0.o 6 rfl) (by decide) rfl rfl ⟨Nat.le_refl _, Nat.le_refl _⟩ dX2_take_43 rfl ?_
  refine ya_aload_n 0 rfl dX2_take_46 ?_
  refine ya_getR fo_X2_26 (h_a0.o 0 rfl) (h_a0.lt 0 (by decide)) (h_a0.l 16 rfl) dX2_take_47 ?_
  refine ya_aload_n 1 rfl dX2_take_50 ?_
  refine ya_getR fo_X2_26 (h_a1.o 0 rfl) (h_a1.lt 0 (by decide)) (h_a1.l 16 rfl) dX2_take_51 ?_
  obtain ⟨d54, e54, h⟩ := ya_ob h
  refine ya_callVv (S := []) (c_X1_take hG (bk_X2_11 h_a0) (bk_X2_11 h_a1) e54) m_X1_take ⟨rfl, rfl⟩ ml_X2_52 rfl ⟨Nat.le_of_ble_eq_true rfl, Nat.le_of_ble_eq_true rfl⟩ (Nat.le_of_ble_eq_true rfl) (h_a0.lt 11 (by decide)) (h_a0.o 11 rfl) (by decide) rfl rfl ⟨Nat.le_refl _, Nat.le_refl _⟩ dX2_take_54 rfl ?_
  cases h
  exact ya_vret rfl rfl rfl rfl rfl (Nat.le_refl _) dX2_take_57
set_option maxRecDepth 20000 in
theorem c_X3_formOf {X : ya_X} {G : ya_G} {v0 : Int32} {d : ya_D} {rr : Nat} (hG : ya_Bk ya_sh ya_ln G 0) (h : f_X3_formOf v0 = some rr) : ya_Ct X yX3_formOf Y_X3_formOf [.int v0] G d (some (.ref (X.2.2.2.2.2.2.1 rr)), G, d) := by
  refine ya_ct (by decide +kernel) rfl rfl (Nat.le_of_ble_eq_true rfl) ?_
  unfold f_X3_formOf at h
  show ya_E X Y_X3_formOf (ya_M X (some (.ref (X.2.2.2.2.2.2.1 rr)), G, d) 0 0) 0 [(0, .int v0)] [] G d 0 0
  refine ya_iload_n 0 rfl dX3_formOf_0 ?_
  rcases ya_ite h with ⟨c1_0, h⟩ | ⟨n1_0, h⟩
  · refine ya_tswIn 0 44 c1_0 (by decide) (by decide) rfl (by decide) dX3_formOf_1 ?_
    refine ya_ldcS 0 rfl dX3_formOf_44 ?_
    cases h
    exact ya_aret (rt := .object "java/lang/String") (Or.inl ⟨_, rfl⟩) rfl rfl rfl rfl rfl (Nat.le_refl _) dX3_formOf_46
  · rcases ya_ite h with ⟨c1_1, h⟩ | ⟨n1_1, h⟩
    · refine ya_tswIn 1 47 c1_1 (by decide) (by decide) rfl (by decide) dX3_formOf_1 ?_
      refine ya_ldcS 1 rfl dX3_formOf_47 ?_
      cases h
      exact ya_aret (rt := .object "java/lang/String") (Or.inl ⟨_, rfl⟩) rfl rfl rfl rfl rfl (Nat.le_refl _) dX3_formOf_49
    · rcases ya_ite h with ⟨c1_2, h⟩ | ⟨n1_2, h⟩
      · refine ya_tswIn 2 50 c1_2 (by decide) (by decide) rfl (by decide) dX3_formOf_1 ?_
        refine ya_ldcS 2 rfl dX3_formOf_50 ?_
        cases h
        exact ya_aret (rt := .object "java/lang/String") (Or.inl ⟨_, rfl⟩) rfl rfl rfl rfl rfl (Nat.le_refl _) dX3_formOf_52
      · rcases ya_ite h with ⟨c1_3, h⟩ | ⟨n1_3, h⟩
        · refine ya_tswIn 3 53 c1_3 (by decide) (by decide) rfl (by decide) dX3_formOf_1 ?_
          refine ya_ldcS 3 rfl dX3_formOf_53 ?_
          cases h
          exact ya_aret (rt := .object "java/lang/String") (Or.inl ⟨_, rfl⟩) rfl rfl rfl rfl rfl (Nat.le_refl _) dX3_formOf_55
        · rcases ya_ite h with ⟨c1_4, h⟩ | ⟨n1_4, h⟩
          · refine ya_tswIn 4 56 c1_4 (by decide) (by decide) rfl (by decide) dX3_formOf_1 ?_
            refine ya_ldcS 4 rfl dX3_formOf_56 ?_
            cases h
            exact ya_aret (rt := .object "java/lang/String") (Or.inl ⟨_, rfl⟩) rfl rfl rfl rfl rfl (Nat.le_refl _) dX3_formOf_58
          · rcases ya_ite h with ⟨c1_5, h⟩ | ⟨n1_5, h⟩
            · refine ya_tswIn 5 59 c1_5 (by decide) (by decide) rfl (by decide) dX3_formOf_1 ?_
              refine ya_ldcS 5 rfl dX3_formOf_59 ?_
              cases h
              exact ya_aret (rt := .object "java/lang/String") (Or.inl ⟨_, rfl⟩) rfl rfl rfl rfl rfl (Nat.le_refl _) dX3_formOf_61
            · rcases ya_ite h with ⟨c1_6, h⟩ | ⟨n1_6, h⟩
              · refine ya_tswIn 6 62 c1_6 (by decide) (by decide) rfl (by decide) dX3_formOf_1 ?_
                refine ya_ldcS 6 rfl dX3_formOf_62 ?_
                cases h
                exact ya_aret (rt := .object "java/lang/String") (Or.inl ⟨_, rfl⟩) rfl rfl rfl rfl rfl (Nat.le_refl _) dX3_formOf_64
              · refine ya_tswOut 65 (ya_out [0, 1, 2, 3, 4, 5, 6] (List.forall_mem_cons.mpr ⟨n1_0, (List.forall_mem_cons.mpr ⟨n1_1, (List.forall_mem_cons.mpr ⟨n1_2, (List.forall_mem_cons.mpr ⟨n1_3, (List.forall_mem_cons.mpr ⟨n1_4, (List.forall_mem_cons.mpr ⟨n1_5, (List.forall_mem_cons.mpr ⟨n1_6, (fun _ hq => absurd hq List.not_mem_nil)⟩)⟩)⟩)⟩)⟩)⟩)⟩) (by decide)) (by decide) dX3_formOf_1 ?_
                refine ya_ldcS 7 rfl dX3_formOf_65 ?_
                cases h
                exact ya_aret (rt := .object "java/lang/String") (Or.inl ⟨_, rfl⟩) rfl rfl rfl rfl rfl (Nat.le_refl _) dX3_formOf_67
set_option maxRecDepth 20000 in
theorem c_X9_begin {X : ya_X} {G : ya_G} {d : ya_D} {rr : ya_D} (hG : ya_Bk ya_sh ya_ln G 0) (h : f_X9_begin d = some rr) : ya_Ct X yX9_begin Y_X9_begin [.ref (X.2.1 + 22)] G d (none, G, rr) := by
  refine ya_ct (by decide +kernel) rfl rfl (Nat.le_of_ble_eq_true rfl) ?_
  unfold f_X9_begin at h
  show ya_E X Y_X9_begin (ya_M X (none, G, rr) 0 0) 0 [(0, .ref (X.2.1 + 22))] [] G d 0 0
  refine ya_aload_n 0 rfl dX9_begin_0 ?_
  refine ya_iconst 0 (by decide) dX9_begin_1 ?_
  refine ya_putIb fo_X9_7 (hG.o0 22 rfl) (hG.lt0 22 (by decide)) .int pf_X9_2 rfl rfl dX9_begin_2 h (fun d2 h => ?_)
  cases h
  exact ya_vret rfl rfl rfl rfl rfl (Nat.le_refl _) dX9_begin_5
set_option maxRecDepth 20000 in
theorem c_X9_isBlank {X : ya_X} {G : ya_G} {v0 : Int32} {d : ya_D} {rr : Int32} (hG : ya_Bk ya_sh ya_ln G 0) (h : f_X9_isBlank v0 = some rr) : ya_Ct X yX9_isBlank Y_X9_isBlank [.int v0] G d (some (.int rr), G, d) := by
  refine ya_ct (by decide +kernel) rfl rfl (Nat.le_of_ble_eq_true rfl) ?_
  unfold f_X9_isBlank at h
  show ya_E X Y_X9_isBlank (ya_M X (some (.int rr), G, d) 0 0) 0 [(0, .int v0)] [] G d 0 0
  refine ya_iload_n 0 rfl dX9_isBlank_0 ?_
  refine ya_bipush 32 (by decide) dX9_isBlank_1 ?_
  refine ya_j0_s h (ya_E X Y_X9_isBlank (ya_M X (some (.int rr), G, d) 0 0) 12 [] [] G d 0 0) (fun h => ?_) (fun k12 hk12 h => ?_)
  · refine ya_iconst 1 (by decide) dX9_isBlank_12 ?_
    refine ya_goto 17 (by decide) dX9_isBlank_13 ?_
    cases h
    exact ya_zret .boolean rfl rfl rfl rfl (by decide) rfl (Nat.le_refl _) dX9_isBlank_17
  · refine ya_icmp_eq 12 (by decide) dX9_isBlank_3 (fun c => ?_) (fun c => ?_)
    · replace h := ya_itet h c
      refine ya_sub [] [] rfl ?_
      exact hk12  h
    · replace h := ya_itef h c
      refine ya_iload_n 0 rfl dX9_isBlank_6 ?_
      refine ya_bipush 10 (by decide) dX9_isBlank_7 ?_
      refine ya_icmp_ne 16 (by decide) dX9_isBlank_9 (fun c => ?_) (fun c => ?_)
      · replace h := ya_itef h c
        refine ya_iconst 0 (by decide) dX9_isBlank_16 ?_
        cases h
        exact ya_zret .boolean rfl rfl rfl rfl (by decide) rfl (Nat.le_refl _) dX9_isBlank_17
      · replace h := ya_itet h c
        refine ya_sub [] [] rfl ?_
        exact hk12  h
set_option maxRecDepth 20000 in
theorem c_X9_isLetter {X : ya_X} {G : ya_G} {v0 : Int32} {d : ya_D} {rr : Int32} (hG : ya_Bk ya_sh ya_ln G 0) (h : f_X9_isLetter v0 = some rr) : ya_Ct X yX9_isLetter Y_X9_isLetter [.int v0] G d (some (.int rr), G, d) := by
  refine ya_ct (by decide +kernel) rfl rfl (Nat.le_of_ble_eq_true rfl) ?_
  unfold f_X9_isLetter at h
  show ya_E X Y_X9_isLetter (ya_M X (some (.int rr), G, d) 0 0) 0 [(0, .int v0)] [] G d 0 0
  refine ya_iload_n 0 rfl dX9_isLetter_0 ?_
  refine ya_bipush 97 (by decide) dX9_isLetter_1 ?_
  refine ya_j0_s h (ya_E X Y_X9_isLetter (ya_M X (some (.int rr), G, d) 0 0) 16 [] [] G d 0 0) (fun h => ?_) (fun k16 hk16 h => ?_)
  · refine ya_iconst 0 (by decide) dX9_isLetter_16 ?_
    cases h
    exact ya_zret .boolean rfl rfl rfl rfl (by decide) rfl (Nat.le_refl _) dX9_isLetter_17
  · refine ya_icmp_lt 16 (by decide) dX9_isLetter_3 (fun c => ?_) (fun c => ?_)
    · replace h := ya_itet h c
      refine ya_sub [] [] rfl ?_
      exact hk16  h
    · replace h := ya_itef h c
      refine ya_iload_n 0 rfl dX9_isLetter_6 ?_
      refine ya_bipush 122 (by decide) dX9_isLetter_7 ?_
      refine ya_icmp_gt 16 (by decide) dX9_isLetter_9 (fun c => ?_) (fun c => ?_)
      · replace h := ya_itet h c
        refine ya_sub [] [] rfl ?_
        exact hk16  h
      · replace h := ya_itef h c
        refine ya_iconst 1 (by decide) dX9_isLetter_12 ?_
        refine ya_goto 17 (by decide) dX9_isLetter_13 ?_
        cases h
        exact ya_zret .boolean rfl rfl rfl rfl (by decide) rfl (Nat.le_refl _) dX9_isLetter_17
set_option maxRecDepth 20000 in
theorem c_X9_isDigit {X : ya_X} {G : ya_G} {v0 : Int32} {d : ya_D} {rr : Int32} (hG : ya_Bk ya_sh ya_ln G 0) (h : f_X9_isDigit v0 = some rr) : ya_Ct X yX9_isDigit Y_X9_isDigit [.int v0] G d (some (.int rr), G, d) := by
  refine ya_ct (by decide +kernel) rfl rfl (Nat.le_of_ble_eq_true rfl) ?_
  unfold f_X9_isDigit at h
  show ya_E X Y_X9_isDigit (ya_M X (some (.int rr), G, d) 0 0) 0 [(0, .int v0)] [] G d 0 0
  refine ya_iload_n 0 rfl dX9_isDigit_0 ?_
  refine ya_bipush 48 (by decide) dX9_isDigit_1 ?_
  refine ya_j0_s h (ya_E X Y_X9_isDigit (ya_M X (some (.int rr), G, d) 0 0) 16 [] [] G d 0 0) (fun h => ?_) (fun k16 hk16 h => ?_)
  · refine ya_iconst 0 (by decide) dX9_isDigit_16 ?_
    cases h
    exact ya_zret .boolean rfl rfl rfl rfl (by decide) rfl (Nat.le_refl _) dX9_isDigit_17
  · refine ya_icmp_lt 16 (by decide) dX9_isDigit_3 (fun c => ?_) (fun c => ?_)
    · replace h := ya_itet h c
      refine ya_sub [] [] rfl ?_
      exact hk16  h
    · replace h := ya_itef h c
      refine ya_iload_n 0 rfl dX9_isDigit_6 ?_
      refine ya_bipush 57 (by decide) dX9_isDigit_7 ?_
      refine ya_icmp_gt 16 (by decide) dX9_isDigit_9 (fun c => ?_) (fun c => ?_)
      · replace h := ya_itet h c
        refine ya_sub [] [] rfl ?_
        exact hk16  h
      · replace h := ya_itef h c
        refine ya_iconst 1 (by decide) dX9_isDigit_12 ?_
        refine ya_goto 17 (by decide) dX9_isDigit_13 ?_
        cases h
        exact ya_zret .boolean rfl rfl rfl rfl (by decide) rfl (Nat.le_refl _) dX9_isDigit_17
set_option maxRecDepth 20000 in
theorem w_X9_next_L13 {X : ya_X} {G : ya_G} {rr : ya_D} {e46 : ya_D → Option ya_D} (hG : ya_Bk ya_sh ya_ln G 0) (he46 : ∀ (d : ya_D), e46 d = some rr → ya_E X Y_X9_next (ya_M X (none, G, rr) 0 0) 46 [(0, .ref (X.2.1 + 22)), (1, .ref (X.2.1 + 1))] [] G d 0 0) : ∀ (n : Nat) (v2 : Int32) (d : ya_D), f_X9_next_L13 e46 n v2 d = some rr → ya_E X Y_X9_next (ya_M X (none, G, rr) 0 0) 13 [(0, .ref (X.2.1 + 22)), (1, .ref (X.2.1 + 1)), (2, .int v2)] [] G d 0 0 := by
  intro n
  induction n with
  | zero => intro v2 d h; cases h
  | succ n ih =>
    intro v2 d h
    rw [f_X9_next_L13] at h
    refine ya_iload_n 2 rfl dX9_next_13 ?_
    refine ya_aload_n 1 rfl dX9_next_14 ?_
    refine ya_getI fo_X9_16 (hG.o0 1 rfl) (hG.lt0 1 (by decide)) dX9_next_15 ?_
    refine ya_icmp_ge 46 (by decide) dX9_next_18 (fun c => ?_) (fun c => ?_)
    · replace h := ya_itet h c
      refine ya_sub [(0, .ref (X.2.1 + 22)), (1, .ref (X.2.1 + 1))] [0, 1] rfl ?_
      exact he46 _ h
    · replace h := ya_itef h c
      refine ya_aload_n 1 rfl dX9_next_21 ?_
      refine ya_getR fo_X9_21 (hG.o0 1 rfl) (hG.lt0 1 (by decide)) (hG.l0 0 rfl) dX9_next_22 ?_
      refine ya_iload_n 2 rfl dX9_next_25 ?_
      refine ya_cald (hG.s0 2 rfl) (hG.lt0 2 (by decide)) dX9_next_26 h (fun x26 h => ?_)
      obtain ⟨x27, e27, h⟩ := ya_ob h
      refine ya_callSi (S := []) (c_X9_isBlank hG e27) m_X9_isBlank ⟨rfl, rfl⟩ ml_X9_25 rfl ⟨Nat.le_of_ble_eq_true rfl, Nat.le_of_ble_eq_true rfl⟩ (Nat.le_of_ble_eq_true rfl) ⟨Nat.le_refl _, Nat.le_refl _⟩ dX9_next_27 rfl ?_
      refine ya_ifeq 46 (by decide) dX9_next_30 (fun c => ?_) (fun c => ?_)
      · replace h := ya_itet h c
        refine ya_sub [(0, .ref (X.2.1 + 22)), (1, .ref (X.2.1 + 1))] [0, 1] rfl ?_
        exact he46 _ h
      · replace h := ya_itef h c
        refine ya_aload_n 0 rfl dX9_next_33 ?_
        refine ya_iload_n 2 rfl dX9_next_34 ?_
        refine ya_iconst 1 (by decide) dX9_next_35 ?_
        refine ya_iadd dX9_next_36 ?_
        refine ya_putIb fo_X9_13 (hG.o0 22 rfl) (hG.lt0 22 (by decide)) .int pf_X9_1 rfl rfl dX9_next_37 h (fun d37 h => ?_)
        refine ya_iinc (v2 + 1) rfl 2 rfl [(2, .int (v2 + 1)), (0, .ref (X.2.1 + 22)), (1, .ref (X.2.1 + 1))] (by decide) rfl dX9_next_40 ?_
        refine ya_goto 13 (by decide) dX9_next_43 ?_
        refine ya_sub [(0, .ref (X.2.1 + 22)), (1, .ref (X.2.1 + 1)), (2, .int (v2 + 1))] [1, 2, 0] rfl ?_
        exact ih _ _ h
set_option maxRecDepth 20000 in
theorem w_X9_next_L156 {X : ya_X} {G : ya_G} {rr : ya_D} {e215 : ya_D → Option ya_D} (hG : ya_Bk ya_sh ya_ln G 0) (he215 : ∀ (d : ya_D), e215 d = some rr → ya_E X Y_X9_next (ya_M X (none, G, rr) 0 0) 215 [] [] G d 0 0) : ∀ (n : Nat) (v3 : Int32) (d : ya_D), f_X9_next_L156 e215 n v3 d = some rr → ya_E X Y_X9_next (ya_M X (none, G, rr) 0 0) 156 [(0, .ref (X.2.1 + 22)), (1, .ref (X.2.1 + 1)), (3, .int v3)] [] G d 0 0 := by
  intro n
  induction n with
  | zero => intro v3 d h; cases h
  | succ n ih =>
    intro v3 d h
    rw [f_X9_next_L156] at h
    refine ya_iload_n 2 rfl dX9_next_156 ?_
    refine ya_aload_n 1 rfl dX9_next_157 ?_
    refine ya_getI fo_X9_16 (hG.o0 1 rfl) (hG.lt0 1 (by decide)) dX9_next_158 ?_
    refine ya_icmp_ge 215 (by decide) dX9_next_161 (fun c => ?_) (fun c => ?_)
    · replace h := ya_itet h c
      refine ya_sub [] [] rfl ?_
      exact he215 _ h
    · replace h := ya_itef h c
      refine ya_aload_n 1 rfl dX9_next_164 ?_
      refine ya_getR fo_X9_21 (hG.o0 1 rfl) (hG.lt0 1 (by decide)) (hG.l0 0 rfl) dX9_next_165 ?_
      refine ya_iload_n 2 rfl dX9_next_168 ?_
      refine ya_cald (hG.s0 2 rfl) (hG.lt0 2 (by decide)) dX9_next_169 h (fun x169 h => ?_)
      obtain ⟨x170, e170, h⟩ := ya_ob h
      refine ya_callSi (S := []) (c_X9_isDigit hG e170) m_X9_isDigit ⟨rfl, rfl⟩ ml_X9_38 rfl ⟨Nat.le_of_ble_eq_true rfl, Nat.le_of_ble_eq_true rfl⟩ (Nat.le_of_ble_eq_true rfl) ⟨Nat.le_refl _, Nat.le_refl _⟩ dX9_next_170 rfl ?_
      refine ya_ifeq 215 (by decide) dX9_next_173 (fun c => ?_) (fun c => ?_)
      · replace h := ya_itet h c
        refine ya_sub [] [] rfl ?_
        exact he215 _ h
      · replace h := ya_itef h c
        refine ya_aload_n 0 rfl dX9_next_176 ?_
        refine ya_ldc 1000000 kc_X9_41 dX9_next_177 ?_
        refine ya_bipush 10 (by decide) dX9_next_179 ?_
        refine ya_aload_n 0 rfl dX9_next_181 ?_
        refine ya_getI fo_X9_29 (hG.o0 22 rfl) (hG.lt0 22 (by decide)) dX9_next_182 ?_
        refine ya_imul dX9_next_185 ?_
        refine ya_aload_n 1 rfl dX9_next_186 ?_
        refine ya_getR fo_X9_21 (hG.o0 1 rfl) (hG.lt0 1 (by decide)) (hG.l0 0 rfl) dX9_next_187 ?_
        refine ya_iload_n 2 rfl dX9_next_190 ?_
        refine ya_cald (hG.s0 2 rfl) (hG.lt0 2 (by decide)) dX9_next_191 h (fun x191 h => ?_)
        refine ya_iadd dX9_next_192 ?_
        refine ya_bipush 48 (by decide) dX9_next_193 ?_
        refine ya_isub dX9_next_195 ?_
        refine ya_mmin ml_X9_42 wm_min1 wm_min2 wm_min3 (by decide) (Nat.le_of_ble_eq_true rfl) ⟨Nat.le_refl _, Nat.le_refl _⟩ dX9_next_196 ?_
        refine ya_putIb fo_X9_29 (hG.o0 22 rfl) (hG.lt0 22 (by decide)) .int pf_X9_3 rfl rfl dX9_next_199 h (fun d199 h => ?_)
        refine ya_aload_n 0 rfl dX9_next_202 ?_
        refine ya_iload_n 2 rfl dX9_next_203 ?_
        refine ya_iconst 1 (by decide) dX9_next_204 ?_
        refine ya_iadd dX9_next_205 ?_
        refine ya_putIb fo_X9_7 (hG.o0 22 rfl) (hG.lt0 22 (by decide)) .int pf_X9_2 rfl rfl dX9_next_206 h (fun d206 h => ?_)
        refine ya_iinc (v3 + 1) rfl 2 rfl [(3, .int (v3 + 1)), (0, .ref (X.2.1 + 22)), (1, .ref (X.2.1 + 1))] (by decide) rfl dX9_next_209 ?_
        refine ya_goto 156 (by decide) dX9_next_212 ?_
        refine ya_sub [(0, .ref (X.2.1 + 22)), (1, .ref (X.2.1 + 1)), (3, .int (v3 + 1))] [1, 2, 0] rfl ?_
        exact ih _ _ h
set_option maxRecDepth 20000 in
theorem w_X9_next_L103 {X : ya_X} {G : ya_G} {rr : ya_D} {e136 : ya_D → Option ya_D} (hG : ya_Bk ya_sh ya_ln G 0) (he136 : ∀ (d : ya_D), e136 d = some rr → ya_E X Y_X9_next (ya_M X (none, G, rr) 0 0) 136 [] [] G d 0 0) : ∀ (n : Nat) (v3 : Int32) (d : ya_D), f_X9_next_L103 e136 n v3 d = some rr → ya_E X Y_X9_next (ya_M X (none, G, rr) 0 0) 103 [(0, .ref (X.2.1 + 22)), (1, .ref (X.2.1 + 1)), (3, .int v3)] [] G d 0 0 := by
  intro n
  induction n with
  | zero => intro v3 d h; cases h
  | succ n ih =>
    intro v3 d h
    rw [f_X9_next_L103] at h
    refine ya_iload_n 2 rfl dX9_next_103 ?_
    refine ya_aload_n 1 rfl dX9_next_104 ?_
    refine ya_getI fo_X9_16 (hG.o0 1 rfl) (hG.lt0 1 (by decide)) dX9_next_105 ?_
    refine ya_icmp_ge 136 (by decide) dX9_next_108 (fun c => ?_) (fun c => ?_)
    · replace h := ya_itet h c
      refine ya_sub [] [] rfl ?_
      exact he136 _ h
    · replace h := ya_itef h c
      refine ya_aload_n 1 rfl dX9_next_111 ?_
      refine ya_getR fo_X9_21 (hG.o0 1 rfl) (hG.lt0 1 (by decide)) (hG.l0 0 rfl) dX9_next_112 ?_
      refine ya_iload_n 2 rfl dX9_next_115 ?_
      refine ya_cald (hG.s0 2 rfl) (hG.lt0 2 (by decide)) dX9_next_116 h (fun x116 h => ?_)
      obtain ⟨x117, e117, h⟩ := ya_ob h
      refine ya_callSi (S := []) (c_X9_isLetter hG e117) m_X9_isLetter ⟨rfl, rfl⟩ ml_X9_35 rfl ⟨Nat.le_of_ble_eq_true rfl, Nat.le_of_ble_eq_true rfl⟩ (Nat.le_of_ble_eq_true rfl) ⟨Nat.le_refl _, Nat.le_refl _⟩ dX9_next_117 rfl ?_
      refine ya_ifeq 136 (by decide) dX9_next_120 (fun c => ?_) (fun c => ?_)
      · replace h := ya_itet h c
        refine ya_sub [] [] rfl ?_
        exact he136 _ h
      · replace h := ya_itef h c
        refine ya_aload_n 0 rfl dX9_next_123 ?_
        refine ya_iload_n 2 rfl dX9_next_124 ?_
        refine ya_iconst 1 (by decide) dX9_next_125 ?_
        refine ya_iadd dX9_next_126 ?_
        refine ya_putIb fo_X9_7 (hG.o0 22 rfl) (hG.lt0 22 (by decide)) .int pf_X9_2 rfl rfl dX9_next_127 h (fun d127 h => ?_)
        refine ya_iinc (v3 + 1) rfl 2 rfl [(3, .int (v3 + 1)), (0, .ref (X.2.1 + 22)), (1, .ref (X.2.1 + 1))] (by decide) rfl dX9_next_130 ?_
        refine ya_goto 103 (by decide) dX9_next_133 ?_
        refine ya_sub [(0, .ref (X.2.1 + 22)), (1, .ref (X.2.1 + 1)), (3, .int (v3 + 1))] [1, 2, 0] rfl ?_
        exact ih _ _ h
set_option maxRecDepth 20000 in
theorem c_X9_next {X : ya_X} {G : ya_G} {d : ya_D} {rr : ya_D} (hG : ya_Bk ya_sh ya_ln G 0) (h : f_X9_next d = some rr) : ya_Ct X yX9_next Y_X9_next [.ref (X.2.1 + 22), .ref (X.2.1 + 1)] G d (none, G, rr) := by
  refine ya_ct (by decide +kernel) rfl rfl (Nat.le_of_ble_eq_true rfl) ?_
  unfold f_X9_next at h
  show ya_E X Y_X9_next (ya_M X (none, G, rr) 0 0) 0 [(0, .ref (X.2.1 + 22)), (1, .ref (X.2.1 + 1))] [] G d 0 0
  refine ya_aload_n 0 rfl dX9_next_0 ?_
  refine ya_aload_n 0 rfl dX9_next_1 ?_
  refine ya_getI fo_X9_7 (hG.o0 22 rfl) (hG.lt0 22 (by decide)) dX9_next_2 ?_
  refine ya_putIb fo_X9_13 (hG.o0 22 rfl) (hG.lt0 22 (by decide)) .int pf_X9_1 rfl rfl dX9_next_5 h (fun d5 h => ?_)
  refine ya_aload_n 0 rfl dX9_next_8 ?_
  refine ya_getI fo_X9_7 (hG.o0 22 rfl) (hG.lt0 22 (by decide)) dX9_next_9 ?_
  refine ya_istore_n [(2, .int (d5.1 22 2)), (0, .ref (X.2.1 + 22)), (1, .ref (X.2.1 + 1))] (by decide) rfl dX9_next_12 ?_
  refine ya_sub [(0, .ref (X.2.1 + 22)), (1, .ref (X.2.1 + 1)), (2, .int (d5.1 22 2))] [1, 2, 0] rfl ?_
  refine w_X9_next_L13 hG (fun d_46 h => ?_) ya_F _ _ h
  refine ya_aload_n 0 rfl dX9_next_46 ?_
  refine ya_aload_n 0 rfl dX9_next_47 ?_
  refine ya_getI fo_X9_13 (hG.o0 22 rfl) (hG.lt0 22 (by decide)) dX9_next_48 ?_
  refine ya_putIb fo_X9_7 (hG.o0 22 rfl) (hG.lt0 22 (by decide)) .int pf_X9_2 rfl rfl dX9_next_51 h (fun d51 h => ?_)
  refine ya_aload_n 0 rfl dX9_next_54 ?_
  refine ya_iconst 0 (by decide) dX9_next_55 ?_
  refine ya_putIb fo_X9_29 (hG.o0 22 rfl) (hG.lt0 22 (by decide)) .int pf_X9_3 rfl rfl dX9_next_56 h (fun d56 h => ?_)
  refine ya_aload_n 0 rfl dX9_next_59 ?_
  refine ya_getI fo_X9_13 (hG.o0 22 rfl) (hG.lt0 22 (by decide)) dX9_next_60 ?_
  refine ya_aload_n 1 rfl dX9_next_63 ?_
  refine ya_getI fo_X9_16 (hG.o0 1 rfl) (hG.lt0 1 (by decide)) dX9_next_64 ?_
  refine ya_icmp_lt 76 (by decide) dX9_next_67 (fun c => ?_) (fun c => ?_)
  · replace h := ya_itet h c
    refine ya_aload_n 1 rfl dX9_next_76 ?_
    refine ya_getR fo_X9_21 (hG.o0 1 rfl) (hG.lt0 1 (by decide)) (hG.l0 0 rfl) dX9_next_77 ?_
    refine ya_aload_n 0 rfl dX9_next_80 ?_
    refine ya_getI fo_X9_13 (hG.o0 22 rfl) (hG.lt0 22 (by decide)) dX9_next_81 ?_
    refine ya_cald (hG.s0 2 rfl) (hG.lt0 2 (by decide)) dX9_next_84 h (fun x84 h => ?_)
    refine ya_istore_n [(2, .int x84), (0, .ref (X.2.1 + 22)), (1, .ref (X.2.1 + 1))] (by decide) rfl dX9_next_85 ?_
    refine ya_iload_n 0 rfl dX9_next_86 ?_
    obtain ⟨x87, e87, h⟩ := ya_ob h
    refine ya_callSi (S := []) (c_X9_isLetter hG e87) m_X9_isLetter ⟨rfl, rfl⟩ ml_X9_35 rfl ⟨Nat.le_of_ble_eq_true rfl, Nat.le_of_ble_eq_true rfl⟩ (Nat.le_of_ble_eq_true rfl) ⟨Nat.le_refl _, Nat.le_refl _⟩ dX9_next_87 rfl ?_
    refine ya_ifeq 139 (by decide) dX9_next_90 (fun c => ?_) (fun c => ?_)
    · replace h := ya_itet h c
      refine ya_iload_n 0 rfl dX9_next_139 ?_
      obtain ⟨x140, e140, h⟩ := ya_ob h
      refine ya_callSi (S := []) (c_X9_isDigit hG e140) m_X9_isDigit ⟨rfl, rfl⟩ ml_X9_38 rfl ⟨Nat.le_of_ble_eq_true rfl, Nat.le_of_ble_eq_true rfl⟩ (Nat.le_of_ble_eq_true rfl) ⟨Nat.le_refl _, Nat.le_refl _⟩ dX9_next_140 rfl ?_
      refine ya_ifeq 218 (by decide) dX9_next_143 (fun c => ?_) (fun c => ?_)
      · replace h := ya_itet h c
        refine ya_aload_n 1 rfl dX9_next_218 ?_
        refine ya_iconst 3 (by decide) dX9_next_219 ?_
        refine ya_putIb fo_X9_32 (hG.o0 22 rfl) (hG.lt0 22 (by decide)) .int pf_X9_0 rfl rfl dX9_next_220 h (fun d220 h => ?_)
        refine ya_aload_n 1 rfl dX9_next_223 ?_
        refine ya_aload_n 1 rfl dX9_next_224 ?_
        refine ya_getI fo_X9_13 (hG.o0 22 rfl) (hG.lt0 22 (by decide)) dX9_next_225 ?_
        refine ya_iconst 1 (by decide) dX9_next_228 ?_
        refine ya_iadd dX9_next_229 ?_
        refine ya_putIb fo_X9_7 (hG.o0 22 rfl) (hG.lt0 22 (by decide)) .int pf_X9_2 rfl rfl dX9_next_230 h (fun d230 h => ?_)
        cases h
        exact ya_vret rfl rfl rfl rfl rfl (Nat.le_refl _) dX9_next_233
      · replace h := ya_itef h c
        refine ya_aload_n 1 rfl dX9_next_146 ?_
        refine ya_iconst 2 (by decide) dX9_next_147 ?_
        refine ya_putIb fo_X9_32 (hG.o0 22 rfl) (hG.lt0 22 (by decide)) .int pf_X9_0 rfl rfl dX9_next_148 h (fun d148 h => ?_)
        refine ya_aload_n 1 rfl dX9_next_151 ?_
        refine ya_getI fo_X9_13 (hG.o0 22 rfl) (hG.lt0 22 (by decide)) dX9_next_152 ?_
        refine ya_istore_n [(3, .int (d148.1 22 1)), (2, .int x84), (0, .ref (X.2.1 + 22)), (1, .ref (X.2.1 + 1))] (by decide) rfl dX9_next_155 ?_
        refine ya_sub [(0, .ref (X.2.1 + 22)), (1, .ref (X.2.1 + 1)), (3, .int (d148.1 22 1))] [2, 3, 0] rfl ?_
        refine w_X9_next_L156 hG (fun d_215 h => ?_) ya_F _ _ h
        refine ya_goto 233 (by decide) dX9_next_215 ?_
        cases h
        exact ya_vret rfl rfl rfl rfl rfl (Nat.le_refl _) dX9_next_233
    · replace h := ya_itef h c
      refine ya_aload_n 1 rfl dX9_next_93 ?_
      refine ya_iconst 1 (by decide) dX9_next_94 ?_
      refine ya_putIb fo_X9_32 (hG.o0 22 rfl) (hG.lt0 22 (by decide)) .int pf_X9_0 rfl rfl dX9_next_95 h (fun d95 h => ?_)
      refine ya_aload_n 1 rfl dX9_next_98 ?_
      refine ya_getI fo_X9_13 (hG.o0 22 rfl) (hG.lt0 22 (by decide)) dX9_next_99 ?_
      refine ya_istore_n [(3, .int (d95.1 22 1)), (2, .int x84), (0, .ref (X.2.1 + 22)), (1, .ref (X.2.1 + 1))] (by decide) rfl dX9_next_102 ?_
      refine ya_sub [(0, .ref (X.2.1 + 22)), (1, .ref (X.2.1 + 1)), (3, .int (d95.1 22 1))] [2, 3, 0] rfl ?_
      refine w_X9_next_L103 hG (fun d_136 h => ?_) ya_F _ _ h
      refine ya_goto 233 (by decide) dX9_next_136 ?_
      cases h
      exact ya_vret rfl rfl rfl rfl rfl (Nat.le_refl _) dX9_next_233
  · replace h := ya_itef h c
    refine ya_aload_n 0 rfl dX9_next_70 ?_
    refine ya_iconst 0 (by decide) dX9_next_71 ?_
    refine ya_putIb fo_X9_32 (hG.o0 22 rfl) (hG.lt0 22 (by decide)) .int pf_X9_0 rfl rfl dX9_next_72 h (fun d72 h => ?_)
    cases h
    exact ya_vret rfl rfl rfl rfl rfl (Nat.le_refl _) dX9_next_75
set_option maxRecDepth 20000 in
theorem w_X9_isAs_L30 {X : ya_X} {G : ya_G} {s2 : Nat} {v3 : Int32} {v4 : Int32} {d : ya_D} {rr : Int32} (hG : ya_Bk ya_sh ya_ln G 0) : ∀ (n : Nat) (v5 : Int32), f_X9_isAs_L30 s2 v3 v4 d n v5 = some rr → ya_E X Y_X9_isAs (ya_M X (some (.int rr), G, d) 0 0) 30 [(0, .ref (X.2.1 + 22)), (1, .ref (X.2.1 + 1)), (2, .ref (X.2.2.2.2.2.2.1 s2)), (3, .int v3), (4, .int v4), (5, .int v5)] [] G d 0 0 := by
  intro n
  induction n with
  | zero => intro v5 h; cases h
  | succ n ih =>
    intro v5 h
    rw [f_X9_isAs_L30] at h
    refine ya_iload 5 rfl dX9_isAs_30 ?_
    refine ya_iload 4 rfl dX9_isAs_32 ?_
    refine ya_iload_n 3 rfl dX9_isAs_34 ?_
    refine ya_isub dX9_isAs_35 ?_
    refine ya_icmp_ge 70 (by decide) dX9_isAs_36 (fun c => ?_) (fun c => ?_)
    · replace h := ya_itet h c
      refine ya_iconst 1 (by decide) dX9_isAs_70 ?_
      cases h
      exact ya_zret .boolean rfl rfl rfl rfl (by decide) rfl (Nat.le_refl _) dX9_isAs_71
    · replace h := ya_itef h c
      refine ya_aload_n 1 rfl dX9_isAs_39 ?_
      refine ya_getR fo_X9_21 (hG.o0 1 rfl) (hG.lt0 1 (by decide)) (hG.l0 0 rfl) dX9_isAs_40 ?_
      refine ya_aload_n 0 rfl dX9_isAs_43 ?_
      refine ya_getI fo_X9_13 (hG.o0 22 rfl) (hG.lt0 22 (by decide)) dX9_isAs_44 ?_
      refine ya_iload 5 rfl dX9_isAs_47 ?_
      refine ya_iadd dX9_isAs_49 ?_
      refine ya_cald (hG.s0 2 rfl) (hG.lt0 2 (by decide)) dX9_isAs_50 h (fun x50 h => ?_)
      refine ya_aload_n 2 rfl dX9_isAs_51 ?_
      refine ya_iload_n 3 rfl dX9_isAs_52 ?_
      refine ya_iload 5 rfl dX9_isAs_53 ?_
      refine ya_iadd dX9_isAs_55 ?_
      refine ya_str_charAt ml_X9_54 (by decide) (by decide) (Nat.le_of_ble_eq_true rfl) ⟨Nat.le_refl _, Nat.le_refl _⟩ dX9_isAs_56 h (fun x56 h => ?_)
      refine ya_icmp_eq 64 (by decide) dX9_isAs_59 (fun c => ?_) (fun c => ?_)
      · replace h := ya_itet h c
        refine ya_iinc (v5 + 1) rfl 5 rfl [(5, .int (v5 + 1)), (0, .ref (X.2.1 + 22)), (1, .ref (X.2.1 + 1)), (2, .ref (X.2.2.2.2.2.2.1 s2)), (3, .int v3), (4, .int v4)] (by decide) rfl dX9_isAs_64 ?_
        refine ya_goto 30 (by decide) dX9_isAs_67 ?_
        refine ya_sub [(0, .ref (X.2.1 + 22)), (1, .ref (X.2.1 + 1)), (2, .ref (X.2.2.2.2.2.2.1 s2)), (3, .int v3), (4, .int v4), (5, .int (v5 + 1))] [1, 2, 3, 4, 5, 0] rfl ?_
        exact ih _ h
      · replace h := ya_itef h c
        refine ya_iconst 0 (by decide) dX9_isAs_62 ?_
        cases h
        exact ya_zret .boolean rfl rfl rfl rfl (by decide) rfl (Nat.le_refl _) dX9_isAs_63
set_option maxRecDepth 20000 in
theorem c_X9_isAs {X : ya_X} {G : ya_G} {s2 : Nat} {v3 : Int32} {v4 : Int32} {d : ya_D} {rr : Int32} (hG : ya_Bk ya_sh ya_ln G 0) (h : f_X9_isAs s2 v3 v4 d = some rr) : ya_Ct X yX9_isAs Y_X9_isAs [.ref (X.2.1 + 22), .ref (X.2.1 + 1), .ref (X.2.2.2.2.2.2.1 s2), .int v3, .int v4] G d (some (.int rr), G, d) := by
  refine ya_ct (by decide +kernel) rfl rfl (Nat.le_of_ble_eq_true rfl) ?_
  unfold f_X9_isAs at h
  show ya_E X Y_X9_isAs (ya_M X (some (.int rr), G, d) 0 0) 0 [(0, .ref (X.2.1 + 22)), (1, .ref (X.2.1 + 1)), (2, .ref (X.2.2.2.2.2.2.1 s2)), (3, .int v3), (4, .int v4)] [] G d 0 0
  refine ya_aload_n 0 rfl dX9_isAs_0 ?_
  refine ya_getI fo_X9_7 (hG.o0 22 rfl) (hG.lt0 22 (by decide)) dX9_isAs_1 ?_
  refine ya_aload_n 0 rfl dX9_isAs_4 ?_
  refine ya_getI fo_X9_13 (hG.o0 22 rfl) (hG.lt0 22 (by decide)) dX9_isAs_5 ?_
  refine ya_isub dX9_isAs_8 ?_
  refine ya_iload 4 rfl dX9_isAs_9 ?_
  refine ya_iload_n 3 rfl dX9_isAs_11 ?_
  refine ya_isub dX9_isAs_12 ?_
  refine ya_icmp_ne 25 (by decide) dX9_isAs_13 (fun c => ?_) (fun c => ?_)
  · replace h := ya_itef h c
    refine ya_iconst 0 (by decide) dX9_isAs_25 ?_
    cases h
    exact ya_zret .boolean rfl rfl rfl rfl (by decide) rfl (Nat.le_refl _) dX9_isAs_26
  · replace h := ya_itet h c
    refine ya_iload 4 rfl dX9_isAs_16 ?_
    refine ya_aload_n 2 rfl dX9_isAs_18 ?_
    refine ya_str_length ml_X9_48 (by decide) (by decide) (Nat.le_of_ble_eq_true rfl) ⟨Nat.le_refl _, Nat.le_refl _⟩ dX9_isAs_19 h (fun x19 h => ?_)
    refine ya_icmp_le 27 (by decide) dX9_isAs_22 (fun c => ?_) (fun c => ?_)
    · replace h := ya_itet h c
      refine ya_iconst 0 (by decide) dX9_isAs_27 ?_
      refine ya_istore [(5, .int 0), (0, .ref (X.2.1 + 22)), (1, .ref (X.2.1 + 1)), (2, .ref (X.2.2.2.2.2.2.1 s2)), (3, .int v3), (4, .int v4)] (by decide) rfl dX9_isAs_28 ?_
      refine ya_sub [(0, .ref (X.2.1 + 22)), (1, .ref (X.2.1 + 1)), (2, .ref (X.2.2.2.2.2.2.1 s2)), (3, .int v3), (4, .int v4), (5, .int 0)] [1, 2, 3, 4, 5, 0] rfl ?_
      refine w_X9_isAs_L30 hG  ya_F _ h
    · replace h := ya_itef h c
      refine ya_iconst 0 (by decide) dX9_isAs_25 ?_
      cases h
      exact ya_zret .boolean rfl rfl rfl rfl (by decide) rfl (Nat.le_refl _) dX9_isAs_26
set_option maxRecDepth 20000 in
theorem w_X3_kindHere_L2 {X : ya_X} {G : ya_G} {d : ya_D} {rr : Int32} (hG : ya_Bk ya_sh ya_ln G 0) : ∀ (n : Nat) (v2 : Int32), f_X3_kindHere_L2 d n v2 = some rr → ya_E X Y_X3_kindHere (ya_M X (some (.int rr), G, d) 0 0) 2 [(0, .ref (X.2.1 + 3)), (1, .ref (X.2.1 + 1)), (2, .int v2)] [] G d 0 0 := by
  intro n
  induction n with
  | zero => intro v2 h; cases h
  | succ n ih =>
    intro v2 h
    rw [f_X3_kindHere_L2] at h
    refine ya_iload_n 2 rfl dX3_kindHere_2 ?_
    refine ya_bipush 8 (by decide) dX3_kindHere_3 ?_
    refine ya_icmp_ge 40 (by decide) dX3_kindHere_5 (fun c => ?_) (fun c => ?_)
    · replace h := ya_itet h c
      refine ya_iconst (-1) (by decide) dX3_kindHere_40 ?_
      cases h
      exact ya_iret rfl rfl rfl rfl rfl (Nat.le_refl _) dX3_kindHere_41
    · replace h := ya_itef h c
      refine ya_iload_n 2 rfl dX3_kindHere_8 ?_
      obtain ⟨x9, e9, h⟩ := ya_ob h
      refine ya_callSa (S := []) (c_X3_formOf hG e9) m_X3_formOf ⟨rfl, rfl⟩ ml_X3_83 rfl ⟨Nat.le_of_ble_eq_true rfl, Nat.le_of_ble_eq_true rfl⟩ (Nat.le_of_ble_eq_true rfl) ⟨Nat.le_refl _, Nat.le_refl _⟩ dX3_kindHere_9 rfl ?_
      refine ya_astore_n [(3, .ref (X.2.2.2.2.2.2.1 x9)), (0, .ref (X.2.1 + 3)), (1, .ref (X.2.1 + 1)), (2, .int v2)] (by decide) rfl dX3_kindHere_12 ?_
      refine ya_aload_n 1 rfl dX3_kindHere_13 ?_
      refine ya_getR fo_X3_21 (hG.o0 3 rfl) (hG.lt0 3 (by decide)) (hG.l0 20 rfl) dX3_kindHere_14 ?_
      refine ya_aload_n 2 rfl dX3_kindHere_17 ?_
      refine ya_aload_n 0 rfl dX3_kindHere_18 ?_
      refine ya_iconst 0 (by decide) dX3_kindHere_19 ?_
      refine ya_aload_n 0 rfl dX3_kindHere_20 ?_
      refine ya_bipush 32 (by decide) dX3_kindHere_21 ?_
      refine ya_str_indexOf ml_X3_94 (by decide) (by decide) (Nat.le_of_ble_eq_true rfl) ⟨Nat.le_refl _, Nat.le_refl _⟩ dX3_kindHere_23 h (fun x23 h => ?_)
      obtain ⟨x26, e26, h⟩ := ya_ob h
      refine ya_callVi (S := []) (c_X9_isAs hG e26) m_X9_isAs ⟨rfl, rfl⟩ ml_X3_100 rfl ⟨Nat.le_of_ble_eq_true rfl, Nat.le_of_ble_eq_true rfl⟩ (Nat.le_of_ble_eq_true rfl) (hG.lt0 22 (by decide)) (hG.o0 22 rfl) (by decide) rfl rfl ⟨Nat.le_refl _, Nat.le_refl _⟩ dX3_kindHere_26 rfl ?_
      refine ya_ifeq 34 (by decide) dX3_kindHere_29 (fun c => ?_) (fun c => ?_)
      · replace h := ya_itet h c
        refine ya_iinc (v2 + 1) rfl 3 rfl [(2, .int (v2 + 1)), (3, .ref (X.2.2.2.2.2.2.1 x9)), (0, .ref (X.2.1 + 3)), (1, .ref (X.2.1 + 1))] (by decide) rfl dX3_kindHere_34 ?_
        refine ya_goto 2 (by decide) dX3_kindHere_37 ?_
        refine ya_sub [(0, .ref (X.2.1 + 3)), (1, .ref (X.2.1 + 1)), (2, .int (v2 + 1))] [2, 3, 0] rfl ?_
        exact ih _ h
      · replace h := ya_itef h c
        refine ya_iload_n 3 rfl dX3_kindHere_32 ?_
        cases h
        exact ya_iret rfl rfl rfl rfl rfl (Nat.le_refl _) dX3_kindHere_33
set_option maxRecDepth 20000 in
theorem c_X3_kindHere {X : ya_X} {G : ya_G} {d : ya_D} {rr : Int32} (hG : ya_Bk ya_sh ya_ln G 0) (h : f_X3_kindHere d = some rr) : ya_Ct X yX3_kindHere Y_X3_kindHere [.ref (X.2.1 + 3), .ref (X.2.1 + 1)] G d (some (.int rr), G, d) := by
  refine ya_ct (by decide +kernel) rfl rfl (Nat.le_of_ble_eq_true rfl) ?_
  unfold f_X3_kindHere at h
  show ya_E X Y_X3_kindHere (ya_M X (some (.int rr), G, d) 0 0) 0 [(0, .ref (X.2.1 + 3)), (1, .ref (X.2.1 + 1))] [] G d 0 0
  refine ya_iconst 0 (by decide) dX3_kindHere_0 ?_
  refine ya_istore_n [(2, .int 0), (0, .ref (X.2.1 + 3)), (1, .ref (X.2.1 + 1))] (by decide) rfl dX3_kindHere_1 ?_
  refine ya_sub [(0, .ref (X.2.1 + 3)), (1, .ref (X.2.1 + 1)), (2, .int 0)] [1, 2, 0] rfl ?_
  refine w_X3_kindHere_L2 hG  ya_F _ h
set_option maxRecDepth 20000 in
theorem c_X3_refuse {X : ya_X} {G : ya_G} {v1 : Int32} {d : ya_D} {rr : ya_D} (hG : ya_Bk ya_sh ya_ln G 0) (h : f_X3_refuse v1 d = some rr) : ya_Ct X yX3_refuse Y_X3_refuse [.ref (X.2.1 + 3), .int v1] G d (none, G, rr) := by
  refine ya_ct (by decide +kernel) rfl rfl (Nat.le_of_ble_eq_true rfl) ?_
  unfold f_X3_refuse at h
  show ya_E X Y_X3_refuse (ya_M X (none, G, rr) 0 0) 0 [(0, .ref (X.2.1 + 3)), (1, .int v1)] [] G d 0 0
  refine ya_aload_n 0 rfl dX3_refuse_0 ?_
  refine ya_iload_n 1 rfl dX3_refuse_1 ?_
  refine ya_putIb fo_X3_29 (hG.o0 3 rfl) (hG.lt0 3 (by decide)) .int pf_X3_4 rfl rfl dX3_refuse_2 h (fun d2 h => ?_)
  refine ya_aload_n 0 rfl dX3_refuse_5 ?_
  refine ya_aload_n 0 rfl dX3_refuse_6 ?_
  refine ya_getR fo_X3_21 (hG.o0 3 rfl) (hG.lt0 3 (by decide)) (hG.l0 20 rfl) dX3_refuse_7 ?_
  refine ya_getI fo_X3_159 (hG.o0 22 rfl) (hG.lt0 22 (by decide)) dX3_refuse_10 ?_
  refine ya_putIb fo_X3_33 (hG.o0 3 rfl) (hG.lt0 3 (by decide)) .int pf_X3_5 rfl rfl dX3_refuse_13 h (fun d13 h => ?_)
  cases h
  exact ya_vret rfl rfl rfl rfl rfl (Nat.le_refl _) dX3_refuse_16
set_option maxRecDepth 20000 in
theorem c_X3_isFull {X : ya_X} {G : ya_G} {v1 : Int32} {d : ya_D} {rr : Int32} (hG : ya_Bk ya_sh ya_ln G 0) (h : f_X3_isFull v1 d = some rr) : ya_Ct X yX3_isFull Y_X3_isFull [.ref (X.2.1 + 3), .int v1] G d (some (.int rr), G, d) := by
  refine ya_ct (by decide +kernel) rfl rfl (Nat.le_of_ble_eq_true rfl) ?_
  unfold f_X3_isFull at h
  show ya_E X Y_X3_isFull (ya_M X (some (.int rr), G, d) 0 0) 0 [(0, .ref (X.2.1 + 3)), (1, .int v1)] [] G d 0 0
  refine ya_iload_n 1 rfl dX3_isFull_0 ?_
  rcases ya_ite h with ⟨c1_0, h⟩ | ⟨n1_0, h⟩
  · refine ya_lsw 36 (by decide) (by first | (rw [c1_0]; done) | (rw [c1_0]; rfl)) (by decide) dX3_isFull_1 ?_
    refine ya_aload_n 0 rfl dX3_isFull_36 ?_
    refine ya_getR fo_X3_12 (hG.o0 3 rfl) (hG.lt0 3 (by decide)) (hG.l0 19 rfl) dX3_isFull_37 ?_
    refine ya_getR fo_X3_104 (hG.o0 4 rfl) (hG.lt0 4 (by decide)) (hG.l0 6 rfl) dX3_isFull_40 ?_
    refine ya_getI fo_X3_108 (hG.o0 5 rfl) (hG.lt0 5 (by decide)) dX3_isFull_43 ?_
    refine ya_iconst 5 (by decide) dX3_isFull_46 ?_
    refine ya_icmp_lt 54 (by decide) dX3_isFull_47 (fun c => ?_) (fun c => ?_)
    · replace h := ya_itet h c
      refine ya_iconst 0 (by decide) dX3_isFull_54 ?_
      cases h
      exact ya_zret .boolean rfl rfl rfl rfl (by decide) rfl (Nat.le_refl _) dX3_isFull_55
    · replace h := ya_itef h c
      refine ya_iconst 1 (by decide) dX3_isFull_50 ?_
      refine ya_goto 55 (by decide) dX3_isFull_51 ?_
      cases h
      exact ya_zret .boolean rfl rfl rfl rfl (by decide) rfl (Nat.le_refl _) dX3_isFull_55
  · rcases ya_ite h with ⟨c1_1, h⟩ | ⟨n1_1, h⟩
    · refine ya_lsw 56 (by decide) (by first | (rw [c1_1]; done) | (rw [c1_1]; rfl)) (by decide) dX3_isFull_1 ?_
      refine ya_aload_n 0 rfl dX3_isFull_56 ?_
      refine ya_getR fo_X3_12 (hG.o0 3 rfl) (hG.lt0 3 (by decide)) (hG.l0 19 rfl) dX3_isFull_57 ?_
      refine ya_getR fo_X3_113 (hG.o0 4 rfl) (hG.lt0 4 (by decide)) (hG.l0 11 rfl) dX3_isFull_60 ?_
      refine ya_getI fo_X3_117 (hG.o0 10 rfl) (hG.lt0 10 (by decide)) dX3_isFull_63 ?_
      refine ya_iconst 5 (by decide) dX3_isFull_66 ?_
      refine ya_icmp_lt 74 (by decide) dX3_isFull_67 (fun c => ?_) (fun c => ?_)
      · replace h := ya_itet h c
        refine ya_iconst 0 (by decide) dX3_isFull_74 ?_
        cases h
        exact ya_zret .boolean rfl rfl rfl rfl (by decide) rfl (Nat.le_refl _) dX3_isFull_75
      · replace h := ya_itef h c
        refine ya_iconst 1 (by decide) dX3_isFull_70 ?_
        refine ya_goto 75 (by decide) dX3_isFull_71 ?_
        cases h
        exact ya_zret .boolean rfl rfl rfl rfl (by decide) rfl (Nat.le_refl _) dX3_isFull_75
    · rcases ya_ite h with ⟨c1_2, h⟩ | ⟨n1_2, h⟩
      · refine ya_lsw 76 (by decide) (by first | (rw [c1_2]; done) | (rw [c1_2]; rfl)) (by decide) dX3_isFull_1 ?_
        refine ya_aload_n 0 rfl dX3_isFull_76 ?_
        refine ya_getR fo_X3_12 (hG.o0 3 rfl) (hG.lt0 3 (by decide)) (hG.l0 19 rfl) dX3_isFull_77 ?_
        refine ya_getR fo_X3_120 (hG.o0 4 rfl) (hG.lt0 4 (by decide)) (hG.l0 18 rfl) dX3_isFull_80 ?_
        refine ya_getI fo_X3_124 (hG.o0 15 rfl) (hG.lt0 15 (by decide)) dX3_isFull_83 ?_
        refine ya_bipush 7 (by decide) dX3_isFull_86 ?_
        refine ya_icmp_lt 95 (by decide) dX3_isFull_88 (fun c => ?_) (fun c => ?_)
        · replace h := ya_itet h c
          refine ya_iconst 0 (by decide) dX3_isFull_95 ?_
          cases h
          exact ya_zret .boolean rfl rfl rfl rfl (by decide) rfl (Nat.le_refl _) dX3_isFull_96
        · replace h := ya_itef h c
          refine ya_iconst 1 (by decide) dX3_isFull_91 ?_
          refine ya_goto 96 (by decide) dX3_isFull_92 ?_
          cases h
          exact ya_zret .boolean rfl rfl rfl rfl (by decide) rfl (Nat.le_refl _) dX3_isFull_96
      · refine ya_lsw 97 (by decide) (ya_lsOut _ (List.forall_mem_cons.mpr ⟨fun ee => n1_0 (Int32.toInt_inj.mp (ee.trans (by decide))), (List.forall_mem_cons.mpr ⟨fun ee => n1_1 (Int32.toInt_inj.mp (ee.trans (by decide))), (List.forall_mem_cons.mpr ⟨fun ee => n1_2 (Int32.toInt_inj.mp (ee.trans (by decide))), (fun _ hq => absurd hq List.not_mem_nil)⟩)⟩)⟩)) (by decide) dX3_isFull_1 ?_
        refine ya_iconst 0 (by decide) dX3_isFull_97 ?_
        cases h
        exact ya_zret .boolean rfl rfl rfl rfl (by decide) rfl (Nat.le_refl _) dX3_isFull_98
set_option maxRecDepth 20000 in
theorem c_X3_lowestOf {X : ya_X} {G : ya_G} {v1 : Int32} {d : ya_D} {rr : Int32} (hG : ya_Bk ya_sh ya_ln G 0) (h : f_X3_lowestOf v1 d = some rr) : ya_Ct X yX3_lowestOf Y_X3_lowestOf [.ref (X.2.1 + 3), .int v1] G d (some (.int rr), G, d) := by
  refine ya_ct (by decide +kernel) rfl rfl (Nat.le_of_ble_eq_true rfl) ?_
  unfold f_X3_lowestOf at h
  show ya_E X Y_X3_lowestOf (ya_M X (some (.int rr), G, d) 0 0) 0 [(0, .ref (X.2.1 + 3)), (1, .int v1)] [] G d 0 0
  refine ya_iload_n 1 rfl dX3_lowestOf_0 ?_
  rcases ya_ite h with ⟨c1_0, h⟩ | ⟨n1_0, h⟩
  · refine ya_lsw 40 (by decide) (by first | (rw [c1_0]; done) | (rw [c1_0]; rfl)) (by decide) dX3_lowestOf_1 ?_
    refine ya_aload_n 0 rfl dX3_lowestOf_40 ?_
    refine ya_getI fo_X3_127 (hG.o0 3 rfl) (hG.lt0 3 (by decide)) dX3_lowestOf_41 ?_
    refine ya_ifle 61 (by decide) dX3_lowestOf_44 (fun c => ?_) (fun c => ?_)
    · replace h := ya_itet h c
      refine ya_iconst 0 (by decide) dX3_lowestOf_61 ?_
      cases h
      exact ya_iret rfl rfl rfl rfl rfl (Nat.le_refl _) dX3_lowestOf_62
    · replace h := ya_itef h c
      refine ya_aload_n 0 rfl dX3_lowestOf_47 ?_
      refine ya_getR fo_X3_25 (hG.o0 3 rfl) (hG.lt0 3 (by decide)) (hG.l0 21 rfl) dX3_lowestOf_48 ?_
      refine ya_aload_n 0 rfl dX3_lowestOf_51 ?_
      refine ya_getI fo_X3_127 (hG.o0 3 rfl) (hG.lt0 3 (by decide)) dX3_lowestOf_52 ?_
      refine ya_iconst 1 (by decide) dX3_lowestOf_55 ?_
      refine ya_isub dX3_lowestOf_56 ?_
      refine ya_iald (hG.s0 23 rfl) (hG.lt0 23 (by decide)) dX3_lowestOf_57 h (fun x57 h => ?_)
      refine ya_goto 62 (by decide) dX3_lowestOf_58 ?_
      cases h
      exact ya_iret rfl rfl rfl rfl rfl (Nat.le_refl _) dX3_lowestOf_62
  · rcases ya_ite h with ⟨c1_1, h⟩ | ⟨n1_1, h⟩
    · refine ya_lsw 38 (by decide) (by first | (rw [c1_1]; done) | (rw [c1_1]; rfl)) (by decide) dX3_lowestOf_1 ?_
      refine ya_iconst 1 (by decide) dX3_lowestOf_38 ?_
      cases h
      exact ya_iret rfl rfl rfl rfl rfl (Nat.le_refl _) dX3_lowestOf_39
    · rcases ya_ite h with ⟨c1_2, h⟩ | ⟨n1_2, h⟩
      · refine ya_lsw 36 (by decide) (by first | (rw [c1_2]; done) | (rw [c1_2]; rfl)) (by decide) dX3_lowestOf_1 ?_
        refine ya_iconst 4 (by decide) dX3_lowestOf_36 ?_
        cases h
        exact ya_iret rfl rfl rfl rfl rfl (Nat.le_refl _) dX3_lowestOf_37
      · refine ya_lsw 63 (by decide) (ya_lsOut _ (List.forall_mem_cons.mpr ⟨fun ee => n1_0 (Int32.toInt_inj.mp (ee.trans (by decide))), (List.forall_mem_cons.mpr ⟨fun ee => n1_1 (Int32.toInt_inj.mp (ee.trans (by decide))), (List.forall_mem_cons.mpr ⟨fun ee => n1_2 (Int32.toInt_inj.mp (ee.trans (by decide))), (fun _ hq => absurd hq List.not_mem_nil)⟩)⟩)⟩)) (by decide) dX3_lowestOf_1 ?_
        refine ya_iconst 0 (by decide) dX3_lowestOf_63 ?_
        cases h
        exact ya_iret rfl rfl rfl rfl rfl (Nat.le_refl _) dX3_lowestOf_64
set_option maxRecDepth 20000 in
theorem c_X3_highestOf {X : ya_X} {G : ya_G} {v1 : Int32} {d : ya_D} {rr : Int32} (hG : ya_Bk ya_sh ya_ln G 0) (h : f_X3_highestOf v1 d = some rr) : ya_Ct X yX3_highestOf Y_X3_highestOf [.ref (X.2.1 + 3), .int v1] G d (some (.int rr), G, d) := by
  refine ya_ct (by decide +kernel) rfl rfl (Nat.le_of_ble_eq_true rfl) ?_
  unfold f_X3_highestOf at h
  show ya_E X Y_X3_highestOf (ya_M X (some (.int rr), G, d) 0 0) 0 [(0, .ref (X.2.1 + 3)), (1, .int v1)] [] G d 0 0
  refine ya_iload_n 1 rfl dX3_highestOf_0 ?_
  rcases ya_ite h with ⟨c1_0, h⟩ | ⟨n1_0, h⟩
  · refine ya_tswIn 68 139 c1_0 (by decide) (by decide) rfl (by decide) dX3_highestOf_1 ?_
    refine ya_aload_n 0 rfl dX3_highestOf_139 ?_
    refine ya_getR fo_X3_12 (hG.o0 3 rfl) (hG.lt0 3 (by decide)) (hG.l0 19 rfl) dX3_highestOf_140 ?_
    refine ya_getI fo_X3_156 (hG.o0 4 rfl) (hG.lt0 4 (by decide)) dX3_highestOf_143 ?_
    refine ya_iconst 1 (by decide) dX3_highestOf_146 ?_
    refine ya_isub dX3_highestOf_147 ?_
    cases h
    exact ya_iret rfl rfl rfl rfl rfl (Nat.le_refl _) dX3_highestOf_148
  · rcases ya_ite h with ⟨c1_1, h⟩ | ⟨n1_1, h⟩
    · refine ya_tswIn 69 149 c1_1 (by decide) (by decide) rfl (by decide) dX3_highestOf_1 ?_
      refine ya_bipush 99 (by decide) dX3_highestOf_149 ?_
      cases h
      exact ya_iret rfl rfl rfl rfl rfl (Nat.le_refl _) dX3_highestOf_151
    · rcases ya_ite h with ⟨c1_2, h⟩ | ⟨n1_2, h⟩
      · refine ya_tswIn 70 149 c1_2 (by decide) (by decide) rfl (by decide) dX3_highestOf_1 ?_
        refine ya_bipush 99 (by decide) dX3_highestOf_149 ?_
        cases h
        exact ya_iret rfl rfl rfl rfl rfl (Nat.le_refl _) dX3_highestOf_151
      · rcases ya_ite h with ⟨c1_3, h⟩ | ⟨n1_3, h⟩
        · refine ya_tswIn 71 149 c1_3 (by decide) (by decide) rfl (by decide) dX3_highestOf_1 ?_
          refine ya_bipush 99 (by decide) dX3_highestOf_149 ?_
          cases h
          exact ya_iret rfl rfl rfl rfl rfl (Nat.le_refl _) dX3_highestOf_151
        · rcases ya_ite h with ⟨c1_4, h⟩ | ⟨n1_4, h⟩
          · refine ya_tswIn 72 149 c1_4 (by decide) (by decide) rfl (by decide) dX3_highestOf_1 ?_
            refine ya_bipush 99 (by decide) dX3_highestOf_149 ?_
            cases h
            exact ya_iret rfl rfl rfl rfl rfl (Nat.le_refl _) dX3_highestOf_151
          · rcases ya_ite h with ⟨c1_5, h⟩ | ⟨n1_5, h⟩
            · refine ya_tswIn 73 149 c1_5 (by decide) (by decide) rfl (by decide) dX3_highestOf_1 ?_
              refine ya_bipush 99 (by decide) dX3_highestOf_149 ?_
              cases h
              exact ya_iret rfl rfl rfl rfl rfl (Nat.le_refl _) dX3_highestOf_151
            · rcases ya_ite h with ⟨c1_6, h⟩ | ⟨n1_6, h⟩
              · refine ya_tswIn 74 149 c1_6 (by decide) (by decide) rfl (by decide) dX3_highestOf_1 ?_
                refine ya_bipush 99 (by decide) dX3_highestOf_149 ?_
                cases h
                exact ya_iret rfl rfl rfl rfl rfl (Nat.le_refl _) dX3_highestOf_151
              · rcases ya_ite h with ⟨c1_7, h⟩ | ⟨n1_7, h⟩
                · refine ya_tswIn 75 110 c1_7 (by decide) (by decide) rfl (by decide) dX3_highestOf_1 ?_
                  refine ya_bipush 30 (by decide) dX3_highestOf_110 ?_
                  cases h
                  exact ya_iret rfl rfl rfl rfl rfl (Nat.le_refl _) dX3_highestOf_112
                · rcases ya_ite h with ⟨c1_8, h⟩ | ⟨n1_8, h⟩
                  · refine ya_tswIn 76 139 c1_8 (by decide) (by decide) rfl (by decide) dX3_highestOf_1 ?_
                    refine ya_aload_n 0 rfl dX3_highestOf_139 ?_
                    refine ya_getR fo_X3_12 (hG.o0 3 rfl) (hG.lt0 3 (by decide)) (hG.l0 19 rfl) dX3_highestOf_140 ?_
                    refine ya_getI fo_X3_156 (hG.o0 4 rfl) (hG.lt0 4 (by decide)) dX3_highestOf_143 ?_
                    refine ya_iconst 1 (by decide) dX3_highestOf_146 ?_
                    refine ya_isub dX3_highestOf_147 ?_
                    cases h
                    exact ya_iret rfl rfl rfl rfl rfl (Nat.le_refl _) dX3_highestOf_148
                  · rcases ya_ite h with ⟨c1_9, h⟩ | ⟨n1_9, h⟩
                    · refine ya_tswIn 77 149 c1_9 (by decide) (by decide) rfl (by decide) dX3_highestOf_1 ?_
                      refine ya_bipush 99 (by decide) dX3_highestOf_149 ?_
                      cases h
                      exact ya_iret rfl rfl rfl rfl rfl (Nat.le_refl _) dX3_highestOf_151
                    · rcases ya_ite h with ⟨c1_10, h⟩ | ⟨n1_10, h⟩
                      · refine ya_tswIn 78 149 c1_10 (by decide) (by decide) rfl (by decide) dX3_highestOf_1 ?_
                        refine ya_bipush 99 (by decide) dX3_highestOf_149 ?_
                        cases h
                        exact ya_iret rfl rfl rfl rfl rfl (Nat.le_refl _) dX3_highestOf_151
                      · rcases ya_ite h with ⟨c1_11, h⟩ | ⟨n1_11, h⟩
                        · refine ya_tswIn 79 149 c1_11 (by decide) (by decide) rfl (by decide) dX3_highestOf_1 ?_
                          refine ya_bipush 99 (by decide) dX3_highestOf_149 ?_
                          cases h
                          exact ya_iret rfl rfl rfl rfl rfl (Nat.le_refl _) dX3_highestOf_151
                        · rcases ya_ite h with ⟨c1_12, h⟩ | ⟨n1_12, h⟩
                          · refine ya_tswIn 80 149 c1_12 (by decide) (by decide) rfl (by decide) dX3_highestOf_1 ?_
                            refine ya_bipush 99 (by decide) dX3_highestOf_149 ?_
                            cases h
                            exact ya_iret rfl rfl rfl rfl rfl (Nat.le_refl _) dX3_highestOf_151
                          · rcases ya_ite h with ⟨c1_13, h⟩ | ⟨n1_13, h⟩
                            · refine ya_tswIn 81 149 c1_13 (by decide) (by decide) rfl (by decide) dX3_highestOf_1 ?_
                              refine ya_bipush 99 (by decide) dX3_highestOf_149 ?_
                              cases h
                              exact ya_iret rfl rfl rfl rfl rfl (Nat.le_refl _) dX3_highestOf_151
                            · rcases ya_ite h with ⟨c1_14, h⟩ | ⟨n1_14, h⟩
                              · refine ya_tswIn 82 149 c1_14 (by decide) (by decide) rfl (by decide) dX3_highestOf_1 ?_
                                refine ya_bipush 99 (by decide) dX3_highestOf_149 ?_
                                cases h
                                exact ya_iret rfl rfl rfl rfl rfl (Nat.le_refl _) dX3_highestOf_151
                              · rcases ya_ite h with ⟨c1_15, h⟩ | ⟨n1_15, h⟩
                                · refine ya_tswIn 83 126 c1_15 (by decide) (by decide) rfl (by decide) dX3_highestOf_1 ?_
                                  refine ya_aload_n 0 rfl dX3_highestOf_126 ?_
                                  refine ya_getR fo_X3_12 (hG.o0 3 rfl) (hG.lt0 3 (by decide)) (hG.l0 19 rfl) dX3_highestOf_127 ?_
                                  refine ya_getR fo_X3_113 (hG.o0 4 rfl) (hG.lt0 4 (by decide)) (hG.l0 11 rfl) dX3_highestOf_130 ?_
                                  refine ya_getI fo_X3_117 (hG.o0 10 rfl) (hG.lt0 10 (by decide)) dX3_highestOf_133 ?_
                                  refine ya_iconst 1 (by decide) dX3_highestOf_136 ?_
                                  refine ya_isub dX3_highestOf_137 ?_
                                  cases h
                                  exact ya_iret rfl rfl rfl rfl rfl (Nat.le_refl _) dX3_highestOf_138
                                · rcases ya_ite h with ⟨c1_16, h⟩ | ⟨n1_16, h⟩
                                  · refine ya_tswIn 84 113 c1_16 (by decide) (by decide) rfl (by decide) dX3_highestOf_1 ?_
                                    refine ya_aload_n 0 rfl dX3_highestOf_113 ?_
                                    refine ya_getR fo_X3_12 (hG.o0 3 rfl) (hG.lt0 3 (by decide)) (hG.l0 19 rfl) dX3_highestOf_114 ?_
                                    refine ya_getR fo_X3_104 (hG.o0 4 rfl) (hG.lt0 4 (by decide)) (hG.l0 6 rfl) dX3_highestOf_117 ?_
                                    refine ya_getI fo_X3_108 (hG.o0 5 rfl) (hG.lt0 5 (by decide)) dX3_highestOf_120 ?_
                                    refine ya_iconst 1 (by decide) dX3_highestOf_123 ?_
                                    refine ya_isub dX3_highestOf_124 ?_
                                    cases h
                                    exact ya_iret rfl rfl rfl rfl rfl (Nat.le_refl _) dX3_highestOf_125
                                  · rcases ya_ite h with ⟨c1_17, h⟩ | ⟨n1_17, h⟩
                                    · refine ya_tswIn 85 149 c1_17 (by decide) (by decide) rfl (by decide) dX3_highestOf_1 ?_
                                      refine ya_bipush 99 (by decide) dX3_highestOf_149 ?_
                                      cases h
                                      exact ya_iret rfl rfl rfl rfl rfl (Nat.le_refl _) dX3_highestOf_151
                                    · rcases ya_ite h with ⟨c1_18, h⟩ | ⟨n1_18, h⟩
                                      · refine ya_tswIn 86 149 c1_18 (by decide) (by decide) rfl (by decide) dX3_highestOf_1 ?_
                                        refine ya_bipush 99 (by decide) dX3_highestOf_149 ?_
                                        cases h
                                        exact ya_iret rfl rfl rfl rfl rfl (Nat.le_refl _) dX3_highestOf_151
                                      · rcases ya_ite h with ⟨c1_19, h⟩ | ⟨n1_19, h⟩
                                        · refine ya_tswIn 87 107 c1_19 (by decide) (by decide) rfl (by decide) dX3_highestOf_1 ?_
                                          refine ya_bipush 9 (by decide) dX3_highestOf_107 ?_
                                          cases h
                                          exact ya_iret rfl rfl rfl rfl rfl (Nat.le_refl _) dX3_highestOf_109
                                        · rcases ya_ite h with ⟨c1_20, h⟩ | ⟨n1_20, h⟩
                                          · refine ya_tswIn 88 149 c1_20 (by decide) (by decide) rfl (by decide) dX3_highestOf_1 ?_
                                            refine ya_bipush 99 (by decide) dX3_highestOf_149 ?_
                                            cases h
                                            exact ya_iret rfl rfl rfl rfl rfl (Nat.le_refl _) dX3_highestOf_151
                                          · rcases ya_ite h with ⟨c1_21, h⟩ | ⟨n1_21, h⟩
                                            · refine ya_tswIn 89 104 c1_21 (by decide) (by decide) rfl (by decide) dX3_highestOf_1 ?_
                                              refine ya_bipush 20 (by decide) dX3_highestOf_104 ?_
                                              cases h
                                              exact ya_iret rfl rfl rfl rfl rfl (Nat.le_refl _) dX3_highestOf_106
                                            · refine ya_tswOut 149 (ya_out [68, 69, 70, 71, 72, 73, 74, 75, 76, 77, 78, 79, 80, 81, 82, 83, 84, 85, 86, 87, 88, 89] (List.forall_mem_cons.mpr ⟨n1_0, (List.forall_mem_cons.mpr ⟨n1_1, (List.forall_mem_cons.mpr ⟨n1_2, (List.forall_mem_cons.mpr ⟨n1_3, (List.forall_mem_cons.mpr ⟨n1_4, (List.forall_mem_cons.mpr ⟨n1_5, (List.forall_mem_cons.mpr ⟨n1_6, (List.forall_mem_cons.mpr ⟨n1_7, (List.forall_mem_cons.mpr ⟨n1_8, (List.forall_mem_cons.mpr ⟨n1_9, (List.forall_mem_cons.mpr ⟨n1_10, (List.forall_mem_cons.mpr ⟨n1_11, (List.forall_mem_cons.mpr ⟨n1_12, (List.forall_mem_cons.mpr ⟨n1_13, (List.forall_mem_cons.mpr ⟨n1_14, (List.forall_mem_cons.mpr ⟨n1_15, (List.forall_mem_cons.mpr ⟨n1_16, (List.forall_mem_cons.mpr ⟨n1_17, (List.forall_mem_cons.mpr ⟨n1_18, (List.forall_mem_cons.mpr ⟨n1_19, (List.forall_mem_cons.mpr ⟨n1_20, (List.forall_mem_cons.mpr ⟨n1_21, (fun _ hq => absurd hq List.not_mem_nil)⟩)⟩)⟩)⟩)⟩)⟩)⟩)⟩)⟩)⟩)⟩)⟩)⟩)⟩)⟩)⟩)⟩)⟩)⟩)⟩)⟩)⟩) (by decide)) (by decide) dX3_highestOf_1 ?_
                                              refine ya_bipush 99 (by decide) dX3_highestOf_149 ?_
                                              cases h
                                              exact ya_iret rfl rfl rfl rfl rfl (Nat.le_refl _) dX3_highestOf_151
set_option maxRecDepth 20000 in
theorem c_X3_readNumber {X : ya_X} {G : ya_G} {v1 : Int32} {d : ya_D} {rr : ya_D} (hG : ya_Bk ya_sh ya_ln G 0) (h : f_X3_readNumber v1 d = some rr) : ya_Ct X yX3_readNumber Y_X3_readNumber [.ref (X.2.1 + 3), .int v1] G d (none, G, rr) := by
  refine ya_ct (by decide +kernel) rfl rfl (Nat.le_of_ble_eq_true rfl) ?_
  unfold f_X3_readNumber at h
  show ya_E X Y_X3_readNumber (ya_M X (none, G, rr) 0 0) 0 [(0, .ref (X.2.1 + 3)), (1, .int v1)] [] G d 0 0
  refine ya_aload_n 0 rfl dX3_readNumber_0 ?_
  refine ya_getR fo_X3_21 (hG.o0 3 rfl) (hG.lt0 3 (by decide)) (hG.l0 20 rfl) dX3_readNumber_1 ?_
  refine ya_getI fo_X3_62 (hG.o0 22 rfl) (hG.lt0 22 (by decide)) dX3_readNumber_4 ?_
  refine ya_iconst 2 (by decide) dX3_readNumber_7 ?_
  refine ya_icmp_eq 19 (by decide) dX3_readNumber_8 (fun c => ?_) (fun c => ?_)
  · replace h := ya_itet h c
    refine ya_aload_n 0 rfl dX3_readNumber_19 ?_
    refine ya_getR fo_X3_21 (hG.o0 3 rfl) (hG.lt0 3 (by decide)) (hG.l0 20 rfl) dX3_readNumber_20 ?_
    refine ya_getI fo_X3_146 (hG.o0 22 rfl) (hG.lt0 22 (by decide)) dX3_readNumber_23 ?_
    refine ya_aload_n 0 rfl dX3_readNumber_26 ?_
    refine ya_iload_n 1 rfl dX3_readNumber_27 ?_
    obtain ⟨x28, e28, h⟩ := ya_ob h
    refine ya_callVi (S := [.int (d.1 22 3)]) (c_X3_lowestOf hG e28) m_X3_lowestOf ⟨rfl, rfl⟩ ml_X3_149 rfl ⟨Nat.le_of_ble_eq_true rfl, Nat.le_of_ble_eq_true rfl⟩ (Nat.le_of_ble_eq_true rfl) (hG.lt0 3 (by decide)) (hG.o0 3 rfl) (by decide) rfl rfl ⟨Nat.le_refl _, Nat.le_refl _⟩ dX3_readNumber_28 rfl ?_
    refine ya_j0_s h (ya_E X Y_X3_readNumber (ya_M X (none, G, rr) 0 0) 49 [(0, .ref (X.2.1 + 3))] [] G d 0 0) (fun h => ?_) (fun k49 hk49 h => ?_)
    · refine ya_aload_n 0 rfl dX3_readNumber_49 ?_
      refine ya_iconst 2 (by decide) dX3_readNumber_50 ?_
      obtain ⟨d51, e51, h⟩ := ya_ob h
      refine ya_callVv (S := []) (c_X3_refuse hG e51) m_X3_refuse ⟨rfl, rfl⟩ ml_X3_75 rfl ⟨Nat.le_of_ble_eq_true rfl, Nat.le_of_ble_eq_true rfl⟩ (Nat.le_of_ble_eq_true rfl) (hG.lt0 3 (by decide)) (hG.o0 3 rfl) (by decide) rfl rfl ⟨Nat.le_refl _, Nat.le_refl _⟩ dX3_readNumber_51 rfl ?_
      refine ya_goto 95 (by decide) dX3_readNumber_54 ?_
      cases h
      exact ya_vret rfl rfl rfl rfl rfl (Nat.le_refl _) dX3_readNumber_95
    · refine ya_icmp_lt 49 (by decide) dX3_readNumber_31 (fun c => ?_) (fun c => ?_)
      · replace h := ya_itet h c
        refine ya_sub [(0, .ref (X.2.1 + 3))] [0] rfl ?_
        exact hk49  h
      · replace h := ya_itef h c
        refine ya_aload_n 0 rfl dX3_readNumber_34 ?_
        refine ya_getR fo_X3_21 (hG.o0 3 rfl) (hG.lt0 3 (by decide)) (hG.l0 20 rfl) dX3_readNumber_35 ?_
        refine ya_getI fo_X3_146 (hG.o0 22 rfl) (hG.lt0 22 (by decide)) dX3_readNumber_38 ?_
        refine ya_aload_n 0 rfl dX3_readNumber_41 ?_
        refine ya_iload_n 1 rfl dX3_readNumber_42 ?_
        obtain ⟨x43, e43, h⟩ := ya_ob h
        refine ya_callVi (S := [.int (d.1 22 3)]) (c_X3_highestOf hG e43) m_X3_highestOf ⟨rfl, rfl⟩ ml_X3_153 rfl ⟨Nat.le_of_ble_eq_true rfl, Nat.le_of_ble_eq_true rfl⟩ (Nat.le_of_ble_eq_true rfl) (hG.lt0 3 (by decide)) (hG.o0 3 rfl) (by decide) rfl rfl ⟨Nat.le_refl _, Nat.le_refl _⟩ dX3_readNumber_43 rfl ?_
        refine ya_icmp_le 57 (by decide) dX3_readNumber_46 (fun c => ?_) (fun c => ?_)
        · replace h := ya_itet h c
          refine ya_aload_n 0 rfl dX3_readNumber_57 ?_
          refine ya_getI fo_X3_127 (hG.o0 3 rfl) (hG.lt0 3 (by decide)) dX3_readNumber_58 ?_
          refine ya_aload_n 0 rfl dX3_readNumber_61 ?_
          refine ya_getR fo_X3_25 (hG.o0 3 rfl) (hG.lt0 3 (by decide)) (hG.l0 21 rfl) dX3_readNumber_62 ?_
          refine ya_alen (v := 6) (hG.s0 23 rfl) (by decide) (by decide) (hG.lt0 23 (by decide)) (by decide) dX3_readNumber_65 ?_
          refine ya_icmp_ge 95 (by decide) dX3_readNumber_66 (fun c => ?_) (fun c => ?_)
          · replace h := ya_itet h c
            cases h
            exact ya_vret rfl rfl rfl rfl rfl (Nat.le_refl _) dX3_readNumber_95
          · replace h := ya_itef h c
            refine ya_aload_n 0 rfl dX3_readNumber_69 ?_
            refine ya_getR fo_X3_25 (hG.o0 3 rfl) (hG.lt0 3 (by decide)) (hG.l0 21 rfl) dX3_readNumber_70 ?_
            refine ya_aload_n 0 rfl dX3_readNumber_73 ?_
            refine ya_getI fo_X3_127 (hG.o0 3 rfl) (hG.lt0 3 (by decide)) dX3_readNumber_74 ?_
            refine ya_aload_n 0 rfl dX3_readNumber_77 ?_
            refine ya_getR fo_X3_21 (hG.o0 3 rfl) (hG.lt0 3 (by decide)) (hG.l0 20 rfl) dX3_readNumber_78 ?_
            refine ya_getI fo_X3_146 (hG.o0 22 rfl) (hG.lt0 22 (by decide)) dX3_readNumber_81 ?_
            refine ya_iast (hG.s0 23 rfl) (hG.lt0 23 (by decide)) dX3_readNumber_84 h (fun d84 h => ?_)
            refine ya_aload_n 0 rfl dX3_readNumber_85 ?_
            refine ya_dup rfl dX3_readNumber_86 ?_
            refine ya_getI fo_X3_127 (hG.o0 3 rfl) (hG.lt0 3 (by decide)) dX3_readNumber_87 ?_
            refine ya_iconst 1 (by decide) dX3_readNumber_90 ?_
            refine ya_iadd dX3_readNumber_91 ?_
            refine ya_putIb fo_X3_127 (hG.o0 3 rfl) (hG.lt0 3 (by decide)) .int pf_X3_3 rfl rfl dX3_readNumber_92 h (fun d92 h => ?_)
            cases h
            exact ya_vret rfl rfl rfl rfl rfl (Nat.le_refl _) dX3_readNumber_95
        · replace h := ya_itef h c
          refine ya_sub [(0, .ref (X.2.1 + 3))] [0] rfl ?_
          exact hk49  h
  · replace h := ya_itef h c
    refine ya_aload_n 0 rfl dX3_readNumber_11 ?_
    refine ya_iconst 1 (by decide) dX3_readNumber_12 ?_
    obtain ⟨d13, e13, h⟩ := ya_ob h
    refine ya_callVv (S := []) (c_X3_refuse hG e13) m_X3_refuse ⟨rfl, rfl⟩ ml_X3_75 rfl ⟨Nat.le_of_ble_eq_true rfl, Nat.le_of_ble_eq_true rfl⟩ (Nat.le_of_ble_eq_true rfl) (hG.lt0 3 (by decide)) (hG.o0 3 rfl) (by decide) rfl rfl ⟨Nat.le_refl _, Nat.le_refl _⟩ dX3_readNumber_13 rfl ?_
    refine ya_goto 95 (by decide) dX3_readNumber_16 ?_
    cases h
    exact ya_vret rfl rfl rfl rfl rfl (Nat.le_refl _) dX3_readNumber_95
set_option maxRecDepth 20000 in
theorem c_X3_readPart {X : ya_X} {G : ya_G} {s2 : Nat} {v3 : Int32} {v4 : Int32} {d : ya_D} {rr : ya_D} (hG : ya_Bk ya_sh ya_ln G 0) (h : f_X3_readPart s2 v3 v4 d = some rr) : ya_Ct X yX3_readPart Y_X3_readPart [.ref (X.2.1 + 3), .ref (X.2.1 + 1), .ref (X.2.2.2.2.2.2.1 s2), .int v3, .int v4] G d (none, G, rr) := by
  refine ya_ct (by decide +kernel) rfl rfl (Nat.le_of_ble_eq_true rfl) ?_
  unfold f_X3_readPart at h
  show ya_E X Y_X3_readPart (ya_M X (none, G, rr) 0 0) 0 [(0, .ref (X.2.1 + 3)), (1, .ref (X.2.1 + 1)), (2, .ref (X.2.2.2.2.2.2.1 s2)), (3, .int v3), (4, .int v4)] [] G d 0 0
  refine ya_aload_n 0 rfl dX3_readPart_0 ?_
  refine ya_getR fo_X3_21 (hG.o0 3 rfl) (hG.lt0 3 (by decide)) (hG.l0 20 rfl) dX3_readPart_1 ?_
  refine ya_aload_n 1 rfl dX3_readPart_4 ?_
  obtain ⟨d5, e5, h⟩ := ya_ob h
  refine ya_callVv (S := []) (c_X9_next hG e5) m_X9_next ⟨rfl, rfl⟩ ml_X3_58 rfl ⟨Nat.le_of_ble_eq_true rfl, Nat.le_of_ble_eq_true rfl⟩ (Nat.le_of_ble_eq_true rfl) (hG.lt0 22 (by decide)) (hG.o0 22 rfl) (by decide) rfl rfl ⟨Nat.le_refl _, Nat.le_refl _⟩ dX3_readPart_5 rfl ?_
  refine ya_iload_n 3 rfl dX3_readPart_8 ?_
  refine ya_aload_n 2 rfl dX3_readPart_9 ?_
  refine ya_str_length ml_X3_130 (by decide) (by decide) (Nat.le_of_ble_eq_true rfl) ⟨Nat.le_refl _, Nat.le_refl _⟩ dX3_readPart_10 h (fun x10 h => ?_)
  refine ya_j1_s h (fun t0_26 => ya_E X Y_X3_readPart (ya_M X (none, G, rr) 0 0) 26 [(0, .ref (X.2.1 + 3)), (1, .ref (X.2.1 + 1)), (2, .ref (X.2.2.2.2.2.2.1 s2)), (3, .int v3), (4, .int v4)] [.int t0_26] G d5 0 0) (fun t0_26 h => ?_) (fun k26 hk26 h => ?_)
  · refine ya_istore [(5, .int t0_26), (0, .ref (X.2.1 + 3)), (1, .ref (X.2.1 + 1)), (2, .ref (X.2.2.2.2.2.2.1 s2)), (3, .int v3), (4, .int v4)] (by decide) rfl dX3_readPart_26 ?_
    refine ya_iload 0 rfl dX3_readPart_28 ?_
    refine ya_bipush 65 (by decide) dX3_readPart_30 ?_
    refine ya_j0_s h (ya_E X Y_X3_readPart (ya_M X (none, G, rr) 0 0) 51 [(0, .ref (X.2.1 + 3)), (1, .ref (X.2.1 + 1)), (2, .ref (X.2.2.2.2.2.2.1 s2)), (3, .int v3), (4, .int v4)] [] G d5 0 0) (fun h => ?_) (fun k51 hk51 h => ?_)
    · refine ya_aload_n 0 rfl dX3_readPart_51 ?_
      refine ya_getR fo_X3_21 (hG.o0 3 rfl) (hG.lt0 3 (by decide)) (hG.l0 20 rfl) dX3_readPart_52 ?_
      refine ya_aload_n 1 rfl dX3_readPart_55 ?_
      refine ya_aload_n 2 rfl dX3_readPart_56 ?_
      refine ya_iload_n 3 rfl dX3_readPart_57 ?_
      refine ya_iload 4 rfl dX3_readPart_58 ?_
      obtain ⟨x60, e60, h⟩ := ya_ob h
      refine ya_callVi (S := []) (c_X9_isAs hG e60) m_X9_isAs ⟨rfl, rfl⟩ ml_X3_100 rfl ⟨Nat.le_of_ble_eq_true rfl, Nat.le_of_ble_eq_true rfl⟩ (Nat.le_of_ble_eq_true rfl) (hG.lt0 22 (by decide)) (hG.o0 22 rfl) (by decide) rfl rfl ⟨Nat.le_refl _, Nat.le_refl _⟩ dX3_readPart_60 rfl ?_
      refine ya_ifne 71 (by decide) dX3_readPart_63 (fun c => ?_) (fun c => ?_)
      · replace h := ya_itef h c
        cases h
        exact ya_vret rfl rfl rfl rfl rfl (Nat.le_refl _) dX3_readPart_71
      · replace h := ya_itet h c
        refine ya_aload_n 0 rfl dX3_readPart_66 ?_
        refine ya_iconst 1 (by decide) dX3_readPart_67 ?_
        obtain ⟨d68, e68, h⟩ := ya_ob h
        refine ya_callVv (S := []) (c_X3_refuse hG e68) m_X3_refuse ⟨rfl, rfl⟩ ml_X3_75 rfl ⟨Nat.le_of_ble_eq_true rfl, Nat.le_of_ble_eq_true rfl⟩ (Nat.le_of_ble_eq_true rfl) (hG.lt0 3 (by decide)) (hG.o0 3 rfl) (by decide) rfl rfl ⟨Nat.le_refl _, Nat.le_refl _⟩ dX3_readPart_68 rfl ?_
        cases h
        exact ya_vret rfl rfl rfl rfl rfl (Nat.le_refl _) dX3_readPart_71
    · refine ya_icmp_lt 51 (by decide) dX3_readPart_32 (fun c => ?_) (fun c => ?_)
      · replace h := ya_itet h c
        refine ya_sub [(0, .ref (X.2.1 + 3)), (1, .ref (X.2.1 + 1)), (2, .ref (X.2.2.2.2.2.2.1 s2)), (3, .int v3), (4, .int v4)] [1, 2, 3, 4, 5] rfl ?_
        exact hk51  h
      · replace h := ya_itef h c
        refine ya_iload 0 rfl dX3_readPart_35 ?_
        refine ya_bipush 90 (by decide) dX3_readPart_37 ?_
        refine ya_icmp_gt 51 (by decide) dX3_readPart_39 (fun c => ?_) (fun c => ?_)
        · replace h := ya_itet h c
          refine ya_sub [(0, .ref (X.2.1 + 3)), (1, .ref (X.2.1 + 1)), (2, .ref (X.2.2.2.2.2.2.1 s2)), (3, .int v3), (4, .int v4)] [1, 2, 3, 4, 5] rfl ?_
          exact hk51  h
        · replace h := ya_itef h c
          refine ya_aload_n 1 rfl dX3_readPart_42 ?_
          refine ya_iload 0 rfl dX3_readPart_43 ?_
          obtain ⟨d45, e45, h⟩ := ya_ob h
          refine ya_callVv (S := []) (c_X3_readNumber hG e45) m_X3_readNumber ⟨rfl, rfl⟩ ml_X3_142 rfl ⟨Nat.le_of_ble_eq_true rfl, Nat.le_of_ble_eq_true rfl⟩ (Nat.le_of_ble_eq_true rfl) (hG.lt0 3 (by decide)) (hG.o0 3 rfl) (by decide) rfl rfl ⟨Nat.le_refl _, Nat.le_refl _⟩ dX3_readPart_45 rfl ?_
          refine ya_goto 71 (by decide) dX3_readPart_48 ?_
          cases h
          exact ya_vret rfl rfl rfl rfl rfl (Nat.le_refl _) dX3_readPart_71
  · refine ya_icmp_ge 24 (by decide) dX3_readPart_13 (fun c => ?_) (fun c => ?_)
    · replace h := ya_itet h c
      refine ya_bipush 32 (by decide) dX3_readPart_24 ?_
      exact hk26 _ h
    · replace h := ya_itef h c
      refine ya_aload_n 2 rfl dX3_readPart_16 ?_
      refine ya_iload_n 3 rfl dX3_readPart_17 ?_
      refine ya_str_charAt ml_X3_134 (by decide) (by decide) (Nat.le_of_ble_eq_true rfl) ⟨Nat.le_refl _, Nat.le_refl _⟩ dX3_readPart_18 h (fun x18 h => ?_)
      refine ya_goto 26 (by decide) dX3_readPart_21 ?_
      exact hk26 _ h
set_option maxRecDepth 20000 in
theorem w_X3_readForm_L17 {X : ya_X} {G : ya_G} {s2 : Nat} {rr : ya_D} (hG : ya_Bk ya_sh ya_ln G 0) : ∀ (n : Nat) (v3 : Int32) (v4 : Int32) (d : ya_D), f_X3_readForm_L17 s2 n v3 v4 d = some rr → ya_E X Y_X3_readForm (ya_M X (none, G, rr) 0 0) 17 [(0, .ref (X.2.1 + 3)), (1, .ref (X.2.1 + 1)), (2, .ref (X.2.2.2.2.2.2.1 s2)), (3, .int v3), (4, .int v4)] [] G d 0 0 := by
  intro n
  induction n with
  | zero => intro v3 v4 d h; cases h
  | succ n ih =>
    intro v3 v4 d h
    rw [f_X3_readForm_L17] at h
    refine ya_iload 4 rfl dX3_readForm_17 ?_
    refine ya_aload_n 2 rfl dX3_readForm_19 ?_
    refine ya_str_length ml_X3_130 (by decide) (by decide) (Nat.le_of_ble_eq_true rfl) ⟨Nat.le_refl _, Nat.le_refl _⟩ dX3_readForm_20 h (fun x20 h => ?_)
    refine ya_icmp_gt 73 (by decide) dX3_readForm_23 (fun c => ?_) (fun c => ?_)
    · replace h := ya_itet h c
      cases h
      exact ya_vret rfl rfl rfl rfl rfl (Nat.le_refl _) dX3_readForm_73
    · replace h := ya_itef h c
      refine ya_aload_n 0 rfl dX3_readForm_26 ?_
      refine ya_getI fo_X3_29 (hG.o0 3 rfl) (hG.lt0 3 (by decide)) dX3_readForm_27 ?_
      refine ya_ifne 73 (by decide) dX3_readForm_30 (fun c => ?_) (fun c => ?_)
      · replace h := ya_itef h c
        cases h
        exact ya_vret rfl rfl rfl rfl rfl (Nat.le_refl _) dX3_readForm_73
      · replace h := ya_itet h c
        refine ya_iload 4 rfl dX3_readForm_33 ?_
        refine ya_aload_n 2 rfl dX3_readForm_35 ?_
        refine ya_str_length ml_X3_130 (by decide) (by decide) (Nat.le_of_ble_eq_true rfl) ⟨Nat.le_refl _, Nat.le_refl _⟩ dX3_readForm_36 h (fun x36 h => ?_)
        refine ya_j2_s h (fun v3_67 d_67 => ya_E X Y_X3_readForm (ya_M X (none, G, rr) 0 0) 67 [(0, .ref (X.2.1 + 3)), (1, .ref (X.2.1 + 1)), (2, .ref (X.2.2.2.2.2.2.1 s2)), (3, .int v3_67), (4, .int v4)] [] G d_67 0 0) (fun v3_67 d_67 h => ?_) (fun k67 hk67 h => ?_)
        · refine ya_iinc (v4 + 1) rfl 4 rfl [(4, .int (v4 + 1)), (0, .ref (X.2.1 + 3)), (1, .ref (X.2.1 + 1)), (2, .ref (X.2.2.2.2.2.2.1 s2)), (3, .int v3_67)] (by decide) rfl dX3_readForm_67 ?_
          refine ya_goto 17 (by decide) dX3_readForm_70 ?_
          refine ya_sub [(0, .ref (X.2.1 + 3)), (1, .ref (X.2.1 + 1)), (2, .ref (X.2.2.2.2.2.2.1 s2)), (3, .int v3_67), (4, .int (v4 + 1))] [1, 2, 3, 4, 0] rfl ?_
          exact ih _ _ _ h
        · refine ya_j0_s h (ya_E X Y_X3_readForm (ya_M X (none, G, rr) 0 0) 53 [(0, .ref (X.2.1 + 3)), (1, .ref (X.2.1 + 1)), (2, .ref (X.2.2.2.2.2.2.1 s2)), (3, .int v3), (4, .int v4)] [] G d 0 0) (fun h => ?_) (fun k53 hk53 h => ?_)
          · refine ya_aload_n 0 rfl dX3_readForm_53 ?_
            refine ya_aload_n 1 rfl dX3_readForm_54 ?_
            refine ya_aload_n 2 rfl dX3_readForm_55 ?_
            refine ya_iload_n 3 rfl dX3_readForm_56 ?_
            refine ya_iload 4 rfl dX3_readForm_57 ?_
            obtain ⟨d59, e59, h⟩ := ya_ob h
            refine ya_callVv (S := []) (c_X3_readPart hG e59) m_X3_readPart ⟨rfl, rfl⟩ ml_X3_138 rfl ⟨Nat.le_of_ble_eq_true rfl, Nat.le_of_ble_eq_true rfl⟩ (Nat.le_of_ble_eq_true rfl) (hG.lt0 3 (by decide)) (hG.o0 3 rfl) (by decide) rfl rfl ⟨Nat.le_refl _, Nat.le_refl _⟩ dX3_readForm_59 rfl ?_
            refine ya_iload 4 rfl dX3_readForm_62 ?_
            refine ya_iconst 1 (by decide) dX3_readForm_64 ?_
            refine ya_iadd dX3_readForm_65 ?_
            refine ya_istore_n [(3, .int (v4 + 1)), (0, .ref (X.2.1 + 3)), (1, .ref (X.2.1 + 1)), (2, .ref (X.2.2.2.2.2.2.1 s2)), (4, .int v4)] (by decide) rfl dX3_readForm_66 ?_
            refine ya_sub [(0, .ref (X.2.1 + 3)), (1, .ref (X.2.1 + 1)), (2, .ref (X.2.2.2.2.2.2.1 s2)), (3, .int (v4 + 1)), (4, .int v4)] [1, 2, 3, 0, 4] rfl ?_
            exact hk67 _ _ h
          · refine ya_icmp_eq 53 (by decide) dX3_readForm_39 (fun c => ?_) (fun c => ?_)
            · replace h := ya_itet h c
              exact hk53  h
            · replace h := ya_itef h c
              refine ya_aload_n 2 rfl dX3_readForm_42 ?_
              refine ya_iload 4 rfl dX3_readForm_43 ?_
              refine ya_str_charAt ml_X3_134 (by decide) (by decide) (Nat.le_of_ble_eq_true rfl) ⟨Nat.le_refl _, Nat.le_refl _⟩ dX3_readForm_45 h (fun x45 h => ?_)
              refine ya_bipush 32 (by decide) dX3_readForm_48 ?_
              refine ya_icmp_ne 67 (by decide) dX3_readForm_50 (fun c => ?_) (fun c => ?_)
              · replace h := ya_itef h c
                exact hk67 _ _ h
              · replace h := ya_itet h c
                exact hk53  h
set_option maxRecDepth 20000 in
theorem c_X3_readForm {X : ya_X} {G : ya_G} {s2 : Nat} {d : ya_D} {rr : ya_D} (hG : ya_Bk ya_sh ya_ln G 0) (h : f_X3_readForm s2 d = some rr) : ya_Ct X yX3_readForm Y_X3_readForm [.ref (X.2.1 + 3), .ref (X.2.1 + 1), .ref (X.2.2.2.2.2.2.1 s2)] G d (none, G, rr) := by
  refine ya_ct (by decide +kernel) rfl rfl (Nat.le_of_ble_eq_true rfl) ?_
  unfold f_X3_readForm at h
  show ya_E X Y_X3_readForm (ya_M X (none, G, rr) 0 0) 0 [(0, .ref (X.2.1 + 3)), (1, .ref (X.2.1 + 1)), (2, .ref (X.2.2.2.2.2.2.1 s2))] [] G d 0 0
  refine ya_aload_n 0 rfl dX3_readForm_0 ?_
  refine ya_iconst 0 (by decide) dX3_readForm_1 ?_
  refine ya_putIb fo_X3_127 (hG.o0 3 rfl) (hG.lt0 3 (by decide)) .int pf_X3_3 rfl rfl dX3_readForm_2 h (fun d2 h => ?_)
  refine ya_aload_n 2 rfl dX3_readForm_5 ?_
  refine ya_bipush 32 (by decide) dX3_readForm_6 ?_
  refine ya_str_indexOf ml_X3_94 (by decide) (by decide) (Nat.le_of_ble_eq_true rfl) ⟨Nat.le_refl _, Nat.le_refl _⟩ dX3_readForm_8 h (fun x8 h => ?_)
  refine ya_iconst 1 (by decide) dX3_readForm_11 ?_
  refine ya_iadd dX3_readForm_12 ?_
  refine ya_istore_n [(3, .int (x8 + 1)), (0, .ref (X.2.1 + 3)), (1, .ref (X.2.1 + 1)), (2, .ref (X.2.2.2.2.2.2.1 s2))] (by decide) rfl dX3_readForm_13 ?_
  refine ya_iload_n 0 rfl dX3_readForm_14 ?_
  refine ya_istore [(4, .int (x8 + 1)), (3, .int (x8 + 1)), (0, .ref (X.2.1 + 3)), (1, .ref (X.2.1 + 1)), (2, .ref (X.2.2.2.2.2.2.1 s2))] (by decide) rfl dX3_readForm_15 ?_
  refine ya_sub [(0, .ref (X.2.1 + 3)), (1, .ref (X.2.1 + 1)), (2, .ref (X.2.2.2.2.2.2.1 s2)), (3, .int (x8 + 1)), (4, .int (x8 + 1))] [2, 3, 4, 1, 0] rfl ?_
  refine w_X3_readForm_L17 hG  ya_F _ _ _ h
set_option maxRecDepth 20000 in
theorem w_X8_add_L21 {X : ya_X} {G : ya_G} {a0 : Nat} {v1 : Int32} {rr : ya_D} {e75 : ya_D → Option ya_D} (hG : ya_Bk ya_sh ya_ln G 0) (h_a0 : ya_Bk shX8 lnX8 G a0) (he75 : ∀ (d : ya_D), e75 d = some rr → ya_E X Y_X8_add (ya_M X (none, G, rr) 0 0) 75 [(0, .ref (X.2.1 + a0))] [] G d 0 0) : ∀ (n : Nat) (v3 : Int32) (d : ya_D), f_X8_add_L21 a0 v1 e75 n v3 d = some rr → ya_E X Y_X8_add (ya_M X (none, G, rr) 0 0) 21 [(0, .ref (X.2.1 + a0)), (1, .int v1), (3, .int v3)] [] G d 0 0 := by
  intro n
  induction n with
  | zero => intro v3 d h; cases h
  | succ n ih =>
    intro v3 d h
    rw [f_X8_add_L21] at h
    refine ya_iload_n 2 rfl dX8_add_21 ?_
    refine ya_bipush 20 (by decide) dX8_add_22 ?_
    refine ya_icmp_ge 75 (by decide) dX8_add_24 (fun c => ?_) (fun c => ?_)
    · replace h := ya_itet h c
      refine ya_sub [(0, .ref (X.2.1 + a0))] [0] rfl ?_
      exact he75 _ h
    · replace h := ya_itef h c
      refine ya_aload_n 0 rfl dX8_add_27 ?_
      refine ya_getR fo_X8_15 (h_a0.o 0 rfl) (h_a0.lt 0 (by decide)) (h_a0.l 1 rfl) dX8_add_28 ?_
      refine ya_aload_n 0 rfl dX8_add_31 ?_
      refine ya_getI fo_X8_24 (h_a0.o 0 rfl) (h_a0.lt 0 (by decide)) dX8_add_32 ?_
      refine ya_iload_n 2 rfl dX8_add_35 ?_
      obtain ⟨x36, e36, h⟩ := ya_ob h
      refine ya_callSNi (S := [.ref (X.2.1 + (a0 + 2))]) (c_X11_cell hG e36) m_X11_cell ⟨rfl, rfl⟩ 11 rfl rfl ⟨Nat.le_of_ble_eq_true rfl, Nat.le_of_ble_eq_true rfl⟩ (Nat.le_of_ble_eq_true rfl) ⟨Nat.le_refl _, Nat.le_refl _⟩ dX8_add_36 rfl ?_
      refine ya_iload_n 1 rfl dX8_add_39 ?_
      refine ya_iast (h_a0.s 2 rfl) (h_a0.lt 2 (by decide)) dX8_add_40 h (fun d40 h => ?_)
      refine ya_aload_n 0 rfl dX8_add_41 ?_
      refine ya_getR fo_X8_18 (h_a0.o 0 rfl) (h_a0.lt 0 (by decide)) (h_a0.l 2 rfl) dX8_add_42 ?_
      refine ya_aload_n 0 rfl dX8_add_45 ?_
      refine ya_getI fo_X8_24 (h_a0.o 0 rfl) (h_a0.lt 0 (by decide)) dX8_add_46 ?_
      refine ya_iload_n 2 rfl dX8_add_49 ?_
      obtain ⟨x50, e50, h⟩ := ya_ob h
      refine ya_callSNi (S := [.ref (X.2.1 + (a0 + 3))]) (c_X11_cell hG e50) m_X11_cell ⟨rfl, rfl⟩ 11 rfl rfl ⟨Nat.le_of_ble_eq_true rfl, Nat.le_of_ble_eq_true rfl⟩ (Nat.le_of_ble_eq_true rfl) ⟨Nat.le_refl _, Nat.le_refl _⟩ dX8_add_50 rfl ?_
      refine ya_iload_n 1 rfl dX8_add_53 ?_
      refine ya_iast (h_a0.s 3 rfl) (h_a0.lt 3 (by decide)) dX8_add_54 h (fun d54 h => ?_)
      refine ya_aload_n 0 rfl dX8_add_55 ?_
      refine ya_getR fo_X8_21 (h_a0.o 0 rfl) (h_a0.lt 0 (by decide)) (h_a0.l 3 rfl) dX8_add_56 ?_
      refine ya_aload_n 0 rfl dX8_add_59 ?_
      refine ya_getI fo_X8_24 (h_a0.o 0 rfl) (h_a0.lt 0 (by decide)) dX8_add_60 ?_
      refine ya_iload_n 2 rfl dX8_add_63 ?_
      obtain ⟨x64, e64, h⟩ := ya_ob h
      refine ya_callSNi (S := [.ref (X.2.1 + (a0 + 4))]) (c_X11_cell hG e64) m_X11_cell ⟨rfl, rfl⟩ 11 rfl rfl ⟨Nat.le_of_ble_eq_true rfl, Nat.le_of_ble_eq_true rfl⟩ (Nat.le_of_ble_eq_true rfl) ⟨Nat.le_refl _, Nat.le_refl _⟩ dX8_add_64 rfl ?_
      refine ya_iconst (-1) (by decide) dX8_add_67 ?_
      refine ya_iast (h_a0.s 4 rfl) (h_a0.lt 4 (by decide)) dX8_add_68 h (fun d68 h => ?_)
      refine ya_iinc (v3 + 1) rfl 2 rfl [(3, .int (v3 + 1)), (0, .ref (X.2.1 + a0)), (1, .int v1)] (by decide) rfl dX8_add_69 ?_
      refine ya_goto 21 (by decide) dX8_add_72 ?_
      refine ya_sub [(0, .ref (X.2.1 + a0)), (1, .int v1), (3, .int (v3 + 1))] [1, 2, 0] rfl ?_
      exact ih _ _ h
set_option maxRecDepth 20000 in
theorem c_X8_add {X : ya_X} {G : ya_G} {a0 : Nat} {v1 : Int32} {v2 : Int32} {d : ya_D} {rr : ya_D} (hG : ya_Bk ya_sh ya_ln G 0) (h_a0 : ya_Bk shX8 lnX8 G a0) (h : f_X8_add a0 v1 v2 d = some rr) : ya_Ct X yX8_add Y_X8_add [.ref (X.2.1 + a0), .int v1, .int v2] G d (none, G, rr) := by
  refine ya_ct (by decide +kernel) rfl rfl (Nat.le_of_ble_eq_true rfl) ?_
  unfold f_X8_add at h
  show ya_E X Y_X8_add (ya_M X (none, G, rr) 0 0) 0 [(0, .ref (X.2.1 + a0)), (1, .int v1), (2, .int v2)] [] G d 0 0
  refine ya_aload_n 0 rfl dX8_add_0 ?_
  refine ya_getI fo_X8_24 (h_a0.o 0 rfl) (h_a0.lt 0 (by decide)) dX8_add_1 ?_
  refine ya_iconst 5 (by decide) dX8_add_4 ?_
  refine ya_icmp_lt 9 (by decide) dX8_add_5 (fun c => ?_) (fun c => ?_)
  · replace h := ya_itet h c
    refine ya_aload_n 0 rfl dX8_add_9 ?_
    refine ya_getR fo_X8_9 (h_a0.o 0 rfl) (h_a0.lt 0 (by decide)) (h_a0.l 0 rfl) dX8_add_10 ?_
    refine ya_aload_n 0 rfl dX8_add_13 ?_
    refine ya_getI fo_X8_24 (h_a0.o 0 rfl) (h_a0.lt 0 (by decide)) dX8_add_14 ?_
    refine ya_iload_n 2 rfl dX8_add_17 ?_
    refine ya_iast (h_a0.s 1 rfl) (h_a0.lt 1 (by decide)) dX8_add_18 h (fun d18 h => ?_)
    refine ya_iconst 0 (by decide) dX8_add_19 ?_
    refine ya_istore_n [(3, .int 0), (0, .ref (X.2.1 + a0)), (1, .int v1), (2, .int v2)] (by decide) rfl dX8_add_20 ?_
    refine ya_sub [(0, .ref (X.2.1 + a0)), (1, .int v1), (3, .int 0)] [1, 2, 0] rfl ?_
    refine w_X8_add_L21 hG h_a0 (fun d_75 h => ?_) ya_F _ _ h
    refine ya_aload_n 0 rfl dX8_add_75 ?_
    refine ya_dup rfl dX8_add_76 ?_
    refine ya_getI fo_X8_24 (h_a0.o 0 rfl) (h_a0.lt 0 (by decide)) dX8_add_77 ?_
    refine ya_iconst 1 (by decide) dX8_add_80 ?_
    refine ya_iadd dX8_add_81 ?_
    refine ya_putIb fo_X8_24 (h_a0.o 0 rfl) (h_a0.lt 0 (by decide)) .int pf_X8_0 rfl rfl dX8_add_82 h (fun d82 h => ?_)
    cases h
    exact ya_vret rfl rfl rfl rfl rfl (Nat.le_refl _) dX8_add_85
  · replace h := ya_itef h c
    cases h
    exact ya_vret rfl rfl rfl rfl rfl (Nat.le_refl _) dX8_add_8
set_option maxRecDepth 20000 in
theorem w_X6_add_L42 {X : ya_X} {G : ya_G} {a0 : Nat} {rr : ya_D} {e70 : ya_D → Option ya_D} (hG : ya_Bk ya_sh ya_ln G 0) (h_a0 : ya_Bk shX6 lnX6 G a0) (he70 : ∀ (d : ya_D), e70 d = some rr → ya_E X Y_X6_add (ya_M X (none, G, rr) 0 0) 70 [(0, .ref (X.2.1 + a0))] [] G d 0 0) : ∀ (n : Nat) (v4 : Int32) (d : ya_D), f_X6_add_L42 a0 e70 n v4 d = some rr → ya_E X Y_X6_add (ya_M X (none, G, rr) 0 0) 42 [(0, .ref (X.2.1 + a0)), (4, .int v4)] [] G d 0 0 := by
  intro n
  induction n with
  | zero => intro v4 d h; cases h
  | succ n ih =>
    intro v4 d h
    rw [f_X6_add_L42] at h
    refine ya_iload 1 rfl dX6_add_42 ?_
    refine ya_bipush 20 (by decide) dX6_add_44 ?_
    refine ya_icmp_ge 70 (by decide) dX6_add_46 (fun c => ?_) (fun c => ?_)
    · replace h := ya_itet h c
      refine ya_sub [(0, .ref (X.2.1 + a0))] [0] rfl ?_
      exact he70 _ h
    · replace h := ya_itef h c
      refine ya_aload_n 0 rfl dX6_add_49 ?_
      refine ya_getR fo_X6_21 (h_a0.o 0 rfl) (h_a0.lt 0 (by decide)) (h_a0.l 3 rfl) dX6_add_50 ?_
      refine ya_aload_n 0 rfl dX6_add_53 ?_
      refine ya_getI fo_X6_24 (h_a0.o 0 rfl) (h_a0.lt 0 (by decide)) dX6_add_54 ?_
      refine ya_iload 1 rfl dX6_add_57 ?_
      obtain ⟨x59, e59, h⟩ := ya_ob h
      refine ya_callSNi (S := [.ref (X.2.1 + (a0 + 4))]) (c_X11_cell hG e59) m_X11_cell ⟨rfl, rfl⟩ 13 rfl rfl ⟨Nat.le_of_ble_eq_true rfl, Nat.le_of_ble_eq_true rfl⟩ (Nat.le_of_ble_eq_true rfl) ⟨Nat.le_refl _, Nat.le_refl _⟩ dX6_add_59 rfl ?_
      refine ya_iconst 0 (by decide) dX6_add_62 ?_
      refine ya_iast (h_a0.s 4 rfl) (h_a0.lt 4 (by decide)) dX6_add_63 h (fun d63 h => ?_)
      refine ya_iinc (v4 + 1) rfl 1 rfl [(4, .int (v4 + 1)), (0, .ref (X.2.1 + a0))] (by decide) rfl dX6_add_64 ?_
      refine ya_goto 42 (by decide) dX6_add_67 ?_
      refine ya_sub [(0, .ref (X.2.1 + a0)), (4, .int (v4 + 1))] [1, 0] rfl ?_
      exact ih _ _ h
set_option maxRecDepth 20000 in
theorem c_X6_add {X : ya_X} {G : ya_G} {a0 : Nat} {v1 : Int32} {v2 : Int32} {v3 : Int32} {d : ya_D} {rr : ya_D} (hG : ya_Bk ya_sh ya_ln G 0) (h_a0 : ya_Bk shX6 lnX6 G a0) (h : f_X6_add a0 v1 v2 v3 d = some rr) : ya_Ct X yX6_add Y_X6_add [.ref (X.2.1 + a0), .int v1, .int v2, .int v3] G d (none, G, rr) := by
  refine ya_ct (by decide +kernel) rfl rfl (Nat.le_of_ble_eq_true rfl) ?_
  unfold f_X6_add at h
  show ya_E X Y_X6_add (ya_M X (none, G, rr) 0 0) 0 [(0, .ref (X.2.1 + a0)), (1, .int v1), (2, .int v2), (3, .int v3)] [] G d 0 0
  refine ya_aload_n 0 rfl dX6_add_0 ?_
  refine ya_getI fo_X6_24 (h_a0.o 0 rfl) (h_a0.lt 0 (by decide)) dX6_add_1 ?_
  refine ya_iconst 5 (by decide) dX6_add_4 ?_
  refine ya_icmp_lt 9 (by decide) dX6_add_5 (fun c => ?_) (fun c => ?_)
  · replace h := ya_itet h c
    refine ya_aload_n 0 rfl dX6_add_9 ?_
    refine ya_getR fo_X6_9 (h_a0.o 0 rfl) (h_a0.lt 0 (by decide)) (h_a0.l 0 rfl) dX6_add_10 ?_
    refine ya_aload_n 0 rfl dX6_add_13 ?_
    refine ya_getI fo_X6_24 (h_a0.o 0 rfl) (h_a0.lt 0 (by decide)) dX6_add_14 ?_
    refine ya_iload_n 1 rfl dX6_add_17 ?_
    refine ya_iast (h_a0.s 1 rfl) (h_a0.lt 1 (by decide)) dX6_add_18 h (fun d18 h => ?_)
    refine ya_aload_n 0 rfl dX6_add_19 ?_
    refine ya_getR fo_X6_15 (h_a0.o 0 rfl) (h_a0.lt 0 (by decide)) (h_a0.l 1 rfl) dX6_add_20 ?_
    refine ya_aload_n 0 rfl dX6_add_23 ?_
    refine ya_getI fo_X6_24 (h_a0.o 0 rfl) (h_a0.lt 0 (by decide)) dX6_add_24 ?_
    refine ya_iload_n 2 rfl dX6_add_27 ?_
    refine ya_iast (h_a0.s 2 rfl) (h_a0.lt 2 (by decide)) dX6_add_28 h (fun d28 h => ?_)
    refine ya_aload_n 0 rfl dX6_add_29 ?_
    refine ya_getR fo_X6_18 (h_a0.o 0 rfl) (h_a0.lt 0 (by decide)) (h_a0.l 2 rfl) dX6_add_30 ?_
    refine ya_aload_n 0 rfl dX6_add_33 ?_
    refine ya_getI fo_X6_24 (h_a0.o 0 rfl) (h_a0.lt 0 (by decide)) dX6_add_34 ?_
    refine ya_iload_n 3 rfl dX6_add_37 ?_
    refine ya_iast (h_a0.s 3 rfl) (h_a0.lt 3 (by decide)) dX6_add_38 h (fun d38 h => ?_)
    refine ya_iconst 0 (by decide) dX6_add_39 ?_
    refine ya_istore [(4, .int 0), (0, .ref (X.2.1 + a0)), (1, .int v1), (2, .int v2), (3, .int v3)] (by decide) rfl dX6_add_40 ?_
    refine ya_sub [(0, .ref (X.2.1 + a0)), (4, .int 0)] [1, 0] rfl ?_
    refine w_X6_add_L42 hG h_a0 (fun d_70 h => ?_) ya_F _ _ h
    refine ya_aload_n 0 rfl dX6_add_70 ?_
    refine ya_dup rfl dX6_add_71 ?_
    refine ya_getI fo_X6_24 (h_a0.o 0 rfl) (h_a0.lt 0 (by decide)) dX6_add_72 ?_
    refine ya_iconst 1 (by decide) dX6_add_75 ?_
    refine ya_iadd dX6_add_76 ?_
    refine ya_putIb fo_X6_24 (h_a0.o 0 rfl) (h_a0.lt 0 (by decide)) .int pf_X6_0 rfl rfl dX6_add_77 h (fun d77 h => ?_)
    cases h
    exact ya_vret rfl rfl rfl rfl rfl (Nat.le_refl _) dX6_add_80
  · replace h := ya_itef h c
    cases h
    exact ya_vret rfl rfl rfl rfl rfl (Nat.le_refl _) dX6_add_8
set_option maxRecDepth 20000 in
theorem c_X3_obey {X : ya_X} {G : ya_G} {v1 : Int32} {d : ya_D} {rr : ya_D} (hG : ya_Bk ya_sh ya_ln G 0) (h : f_X3_obey v1 d = some rr) : ya_Ct X yX3_obey Y_X3_obey [.ref (X.2.1 + 3), .int v1] G d (none, G, rr) := by
  refine ya_ct (by decide +kernel) rfl rfl (Nat.le_of_ble_eq_true rfl) ?_
  unfold f_X3_obey at h
  show ya_E X Y_X3_obey (ya_M X (none, G, rr) 0 0) 0 [(0, .ref (X.2.1 + 3)), (1, .int v1)] [] G d 0 0
  refine ya_iload_n 1 rfl dX3_obey_0 ?_
  rcases ya_ite h with ⟨c1_0, h⟩ | ⟨n1_0, h⟩
  · refine ya_tswIn 0 44 c1_0 (by decide) (by decide) rfl (by decide) dX3_obey_1 ?_
    refine ya_aload_n 0 rfl dX3_obey_44 ?_
    refine ya_getR fo_X3_12 (hG.o0 3 rfl) (hG.lt0 3 (by decide)) (hG.l0 19 rfl) dX3_obey_45 ?_
    refine ya_aload_n 0 rfl dX3_obey_48 ?_
    refine ya_getR fo_X3_25 (hG.o0 3 rfl) (hG.lt0 3 (by decide)) (hG.l0 21 rfl) dX3_obey_49 ?_
    refine ya_iconst 0 (by decide) dX3_obey_52 ?_
    refine ya_iald (hG.s0 23 rfl) (hG.lt0 23 (by decide)) dX3_obey_53 h (fun x53 h => ?_)
    refine ya_putIb fo_X3_156 (hG.o0 4 rfl) (hG.lt0 4 (by decide)) .int pf_X2_1 rfl rfl dX3_obey_54 h (fun d54 h => ?_)
    refine ya_aload_n 0 rfl dX3_obey_57 ?_
    refine ya_getR fo_X3_12 (hG.o0 3 rfl) (hG.lt0 3 (by decide)) (hG.l0 19 rfl) dX3_obey_58 ?_
    refine ya_bipush 99 (by decide) dX3_obey_61 ?_
    refine ya_putIb fo_X3_162 (hG.o0 4 rfl) (hG.lt0 4 (by decide)) .int pf_X2_2 rfl rfl dX3_obey_63 h (fun d63 h => ?_)
    refine ya_goto 260 (by decide) dX3_obey_66 ?_
    cases h
    exact ya_vret rfl rfl rfl rfl rfl (Nat.le_refl _) dX3_obey_260
  · rcases ya_ite h with ⟨c1_1, h⟩ | ⟨n1_1, h⟩
    · refine ya_tswIn 1 69 c1_1 (by decide) (by decide) rfl (by decide) dX3_obey_1 ?_
      refine ya_aload_n 0 rfl dX3_obey_69 ?_
      refine ya_getR fo_X3_12 (hG.o0 3 rfl) (hG.lt0 3 (by decide)) (hG.l0 19 rfl) dX3_obey_70 ?_
      refine ya_getR fo_X3_104 (hG.o0 4 rfl) (hG.lt0 4 (by decide)) (hG.l0 6 rfl) dX3_obey_73 ?_
      refine ya_aload_n 0 rfl dX3_obey_76 ?_
      refine ya_getR fo_X3_25 (hG.o0 3 rfl) (hG.lt0 3 (by decide)) (hG.l0 21 rfl) dX3_obey_77 ?_
      refine ya_iconst 0 (by decide) dX3_obey_80 ?_
      refine ya_iald (hG.s0 23 rfl) (hG.lt0 23 (by decide)) dX3_obey_81 h (fun x81 h => ?_)
      refine ya_aload_n 0 rfl dX3_obey_82 ?_
      refine ya_getR fo_X3_25 (hG.o0 3 rfl) (hG.lt0 3 (by decide)) (hG.l0 21 rfl) dX3_obey_83 ?_
      refine ya_iconst 1 (by decide) dX3_obey_86 ?_
      refine ya_iald (hG.s0 23 rfl) (hG.lt0 23 (by decide)) dX3_obey_87 h (fun x87 h => ?_)
      obtain ⟨d88, e88, h⟩ := ya_ob h
      refine ya_callVv (S := []) (c_X8_add hG (bk_0_5 hG) e88) m_X8_add ⟨rfl, rfl⟩ ml_X3_165 rfl ⟨Nat.le_of_ble_eq_true rfl, Nat.le_of_ble_eq_true rfl⟩ (Nat.le_of_ble_eq_true rfl) (hG.lt0 5 (by decide)) (hG.o0 5 rfl) (by decide) rfl rfl ⟨Nat.le_refl _, Nat.le_refl _⟩ dX3_obey_88 rfl ?_
      refine ya_goto 260 (by decide) dX3_obey_91 ?_
      cases h
      exact ya_vret rfl rfl rfl rfl rfl (Nat.le_refl _) dX3_obey_260
    · rcases ya_ite h with ⟨c1_2, h⟩ | ⟨n1_2, h⟩
      · refine ya_tswIn 2 94 c1_2 (by decide) (by decide) rfl (by decide) dX3_obey_1 ?_
        refine ya_aload_n 0 rfl dX3_obey_94 ?_
        refine ya_getR fo_X3_12 (hG.o0 3 rfl) (hG.lt0 3 (by decide)) (hG.l0 19 rfl) dX3_obey_95 ?_
        refine ya_getR fo_X3_104 (hG.o0 4 rfl) (hG.lt0 4 (by decide)) (hG.l0 6 rfl) dX3_obey_98 ?_
        refine ya_getR fo_X3_169 (hG.o0 5 rfl) (hG.lt0 5 (by decide)) (hG.l0 3 rfl) dX3_obey_101 ?_
        refine ya_aload_n 0 rfl dX3_obey_104 ?_
        refine ya_getR fo_X3_25 (hG.o0 3 rfl) (hG.lt0 3 (by decide)) (hG.l0 21 rfl) dX3_obey_105 ?_
        refine ya_iconst 0 (by decide) dX3_obey_108 ?_
        refine ya_iald (hG.s0 23 rfl) (hG.lt0 23 (by decide)) dX3_obey_109 h (fun x109 h => ?_)
        refine ya_aload_n 0 rfl dX3_obey_110 ?_
        refine ya_getR fo_X3_25 (hG.o0 3 rfl) (hG.lt0 3 (by decide)) (hG.l0 21 rfl) dX3_obey_111 ?_
        refine ya_iconst 1 (by decide) dX3_obey_114 ?_
        refine ya_iald (hG.s0 23 rfl) (hG.lt0 23 (by decide)) dX3_obey_115 h (fun x115 h => ?_)
        obtain ⟨x116, e116, h⟩ := ya_ob h
        refine ya_callSNi (S := [.ref (X.2.1 + 7)]) (c_X11_cell hG e116) m_X11_cell ⟨rfl, rfl⟩ 12 rfl rfl ⟨Nat.le_of_ble_eq_true rfl, Nat.le_of_ble_eq_true rfl⟩ (Nat.le_of_ble_eq_true rfl) ⟨Nat.le_refl _, Nat.le_refl _⟩ dX3_obey_116 rfl ?_
        refine ya_aload_n 0 rfl dX3_obey_119 ?_
        refine ya_getR fo_X3_25 (hG.o0 3 rfl) (hG.lt0 3 (by decide)) (hG.l0 21 rfl) dX3_obey_120 ?_
        refine ya_iconst 2 (by decide) dX3_obey_123 ?_
        refine ya_iald (hG.s0 23 rfl) (hG.lt0 23 (by decide)) dX3_obey_124 h (fun x124 h => ?_)
        refine ya_iast (hG.s0 7 rfl) (hG.lt0 7 (by decide)) dX3_obey_125 h (fun d125 h => ?_)
        refine ya_goto 260 (by decide) dX3_obey_126 ?_
        cases h
        exact ya_vret rfl rfl rfl rfl rfl (Nat.le_refl _) dX3_obey_260
      · rcases ya_ite h with ⟨c1_3, h⟩ | ⟨n1_3, h⟩
        · refine ya_tswIn 3 129 c1_3 (by decide) (by decide) rfl (by decide) dX3_obey_1 ?_
          refine ya_aload_n 0 rfl dX3_obey_129 ?_
          refine ya_getR fo_X3_12 (hG.o0 3 rfl) (hG.lt0 3 (by decide)) (hG.l0 19 rfl) dX3_obey_130 ?_
          refine ya_getR fo_X3_104 (hG.o0 4 rfl) (hG.lt0 4 (by decide)) (hG.l0 6 rfl) dX3_obey_133 ?_
          refine ya_getR fo_X3_176 (hG.o0 5 rfl) (hG.lt0 5 (by decide)) (hG.l0 4 rfl) dX3_obey_136 ?_
          refine ya_aload_n 0 rfl dX3_obey_139 ?_
          refine ya_getR fo_X3_25 (hG.o0 3 rfl) (hG.lt0 3 (by decide)) (hG.l0 21 rfl) dX3_obey_140 ?_
          refine ya_iconst 0 (by decide) dX3_obey_143 ?_
          refine ya_iald (hG.s0 23 rfl) (hG.lt0 23 (by decide)) dX3_obey_144 h (fun x144 h => ?_)
          refine ya_aload_n 0 rfl dX3_obey_145 ?_
          refine ya_getR fo_X3_25 (hG.o0 3 rfl) (hG.lt0 3 (by decide)) (hG.l0 21 rfl) dX3_obey_146 ?_
          refine ya_iconst 1 (by decide) dX3_obey_149 ?_
          refine ya_iald (hG.s0 23 rfl) (hG.lt0 23 (by decide)) dX3_obey_150 h (fun x150 h => ?_)
          obtain ⟨x151, e151, h⟩ := ya_ob h
          refine ya_callSNi (S := [.ref (X.2.1 + 8)]) (c_X11_cell hG e151) m_X11_cell ⟨rfl, rfl⟩ 12 rfl rfl ⟨Nat.le_of_ble_eq_true rfl, Nat.le_of_ble_eq_true rfl⟩ (Nat.le_of_ble_eq_true rfl) ⟨Nat.le_refl _, Nat.le_refl _⟩ dX3_obey_151 rfl ?_
          refine ya_aload_n 0 rfl dX3_obey_154 ?_
          refine ya_getR fo_X3_25 (hG.o0 3 rfl) (hG.lt0 3 (by decide)) (hG.l0 21 rfl) dX3_obey_155 ?_
          refine ya_iconst 2 (by decide) dX3_obey_158 ?_
          refine ya_iald (hG.s0 23 rfl) (hG.lt0 23 (by decide)) dX3_obey_159 h (fun x159 h => ?_)
          refine ya_iast (hG.s0 8 rfl) (hG.lt0 8 (by decide)) dX3_obey_160 h (fun d160 h => ?_)
          refine ya_goto 260 (by decide) dX3_obey_161 ?_
          cases h
          exact ya_vret rfl rfl rfl rfl rfl (Nat.le_refl _) dX3_obey_260
        · rcases ya_ite h with ⟨c1_4, h⟩ | ⟨n1_4, h⟩
          · refine ya_tswIn 4 164 c1_4 (by decide) (by decide) rfl (by decide) dX3_obey_1 ?_
            refine ya_aload_n 0 rfl dX3_obey_164 ?_
            refine ya_getR fo_X3_12 (hG.o0 3 rfl) (hG.lt0 3 (by decide)) (hG.l0 19 rfl) dX3_obey_165 ?_
            refine ya_getR fo_X3_113 (hG.o0 4 rfl) (hG.lt0 4 (by decide)) (hG.l0 11 rfl) dX3_obey_168 ?_
            refine ya_aload_n 0 rfl dX3_obey_171 ?_
            refine ya_getR fo_X3_25 (hG.o0 3 rfl) (hG.lt0 3 (by decide)) (hG.l0 21 rfl) dX3_obey_172 ?_
            refine ya_iconst 0 (by decide) dX3_obey_175 ?_
            refine ya_iald (hG.s0 23 rfl) (hG.lt0 23 (by decide)) dX3_obey_176 h (fun x176 h => ?_)
            refine ya_aload_n 0 rfl dX3_obey_177 ?_
            refine ya_getR fo_X3_25 (hG.o0 3 rfl) (hG.lt0 3 (by decide)) (hG.l0 21 rfl) dX3_obey_178 ?_
            refine ya_iconst 1 (by decide) dX3_obey_181 ?_
            refine ya_iald (hG.s0 23 rfl) (hG.lt0 23 (by decide)) dX3_obey_182 h (fun x182 h => ?_)
            refine ya_aload_n 0 rfl dX3_obey_183 ?_
            refine ya_getR fo_X3_25 (hG.o0 3 rfl) (hG.lt0 3 (by decide)) (hG.l0 21 rfl) dX3_obey_184 ?_
            refine ya_iconst 2 (by decide) dX3_obey_187 ?_
            refine ya_iald (hG.s0 23 rfl) (hG.lt0 23 (by decide)) dX3_obey_188 h (fun x188 h => ?_)
            obtain ⟨d189, e189, h⟩ := ya_ob h
            refine ya_callVv (S := []) (c_X6_add hG (bk_0_10 hG) e189) m_X6_add ⟨rfl, rfl⟩ ml_X3_179 rfl ⟨Nat.le_of_ble_eq_true rfl, Nat.le_of_ble_eq_true rfl⟩ (Nat.le_of_ble_eq_true rfl) (hG.lt0 10 (by decide)) (hG.o0 10 rfl) (by decide) rfl rfl ⟨Nat.le_refl _, Nat.le_refl _⟩ dX3_obey_189 rfl ?_
            refine ya_goto 260 (by decide) dX3_obey_192 ?_
            cases h
            exact ya_vret rfl rfl rfl rfl rfl (Nat.le_refl _) dX3_obey_260
          · rcases ya_ite h with ⟨c1_5, h⟩ | ⟨n1_5, h⟩
            · refine ya_tswIn 5 195 c1_5 (by decide) (by decide) rfl (by decide) dX3_obey_1 ?_
              refine ya_aload_n 0 rfl dX3_obey_195 ?_
              refine ya_getR fo_X3_12 (hG.o0 3 rfl) (hG.lt0 3 (by decide)) (hG.l0 19 rfl) dX3_obey_196 ?_
              refine ya_getR fo_X3_113 (hG.o0 4 rfl) (hG.lt0 4 (by decide)) (hG.l0 11 rfl) dX3_obey_199 ?_
              refine ya_getR fo_X3_182 (hG.o0 10 rfl) (hG.lt0 10 (by decide)) (hG.l0 10 rfl) dX3_obey_202 ?_
              refine ya_aload_n 0 rfl dX3_obey_205 ?_
              refine ya_getR fo_X3_25 (hG.o0 3 rfl) (hG.lt0 3 (by decide)) (hG.l0 21 rfl) dX3_obey_206 ?_
              refine ya_iconst 0 (by decide) dX3_obey_209 ?_
              refine ya_iald (hG.s0 23 rfl) (hG.lt0 23 (by decide)) dX3_obey_210 h (fun x210 h => ?_)
              refine ya_aload_n 0 rfl dX3_obey_211 ?_
              refine ya_getR fo_X3_25 (hG.o0 3 rfl) (hG.lt0 3 (by decide)) (hG.l0 21 rfl) dX3_obey_212 ?_
              refine ya_iconst 1 (by decide) dX3_obey_215 ?_
              refine ya_iald (hG.s0 23 rfl) (hG.lt0 23 (by decide)) dX3_obey_216 h (fun x216 h => ?_)
              obtain ⟨x217, e217, h⟩ := ya_ob h
              refine ya_callSNi (S := [.ref (X.2.1 + 14)]) (c_X11_cell hG e217) m_X11_cell ⟨rfl, rfl⟩ 12 rfl rfl ⟨Nat.le_of_ble_eq_true rfl, Nat.le_of_ble_eq_true rfl⟩ (Nat.le_of_ble_eq_true rfl) ⟨Nat.le_refl _, Nat.le_refl _⟩ dX3_obey_217 rfl ?_
              refine ya_aload_n 0 rfl dX3_obey_220 ?_
              refine ya_getR fo_X3_25 (hG.o0 3 rfl) (hG.lt0 3 (by decide)) (hG.l0 21 rfl) dX3_obey_221 ?_
              refine ya_iconst 2 (by decide) dX3_obey_224 ?_
              refine ya_iald (hG.s0 23 rfl) (hG.lt0 23 (by decide)) dX3_obey_225 h (fun x225 h => ?_)
              refine ya_iast (hG.s0 14 rfl) (hG.lt0 14 (by decide)) dX3_obey_226 h (fun d226 h => ?_)
              refine ya_goto 260 (by decide) dX3_obey_227 ?_
              cases h
              exact ya_vret rfl rfl rfl rfl rfl (Nat.le_refl _) dX3_obey_260
            · rcases ya_ite h with ⟨c1_6, h⟩ | ⟨n1_6, h⟩
              · refine ya_tswIn 6 230 c1_6 (by decide) (by decide) rfl (by decide) dX3_obey_1 ?_
                refine ya_aload_n 0 rfl dX3_obey_230 ?_
                refine ya_getR fo_X3_12 (hG.o0 3 rfl) (hG.lt0 3 (by decide)) (hG.l0 19 rfl) dX3_obey_231 ?_
                refine ya_getR fo_X3_120 (hG.o0 4 rfl) (hG.lt0 4 (by decide)) (hG.l0 18 rfl) dX3_obey_234 ?_
                refine ya_aload_n 0 rfl dX3_obey_237 ?_
                refine ya_getR fo_X3_25 (hG.o0 3 rfl) (hG.lt0 3 (by decide)) (hG.l0 21 rfl) dX3_obey_238 ?_
                obtain ⟨d241, e241, h⟩ := ya_ob h
                refine ya_callVv (S := []) (c_X1_add hG (bk_0_15 hG) e241) m_X1_add ⟨rfl, rfl⟩ ml_X3_185 rfl ⟨Nat.le_of_ble_eq_true rfl, Nat.le_of_ble_eq_true rfl⟩ (Nat.le_of_ble_eq_true rfl) (hG.lt0 15 (by decide)) (hG.o0 15 rfl) (by decide) rfl rfl ⟨Nat.le_refl _, Nat.le_refl _⟩ dX3_obey_241 rfl ?_
                refine ya_goto 260 (by decide) dX3_obey_244 ?_
                cases h
                exact ya_vret rfl rfl rfl rfl rfl (Nat.le_refl _) dX3_obey_260
              · refine ya_tswOut 247 (ya_out [0, 1, 2, 3, 4, 5, 6] (List.forall_mem_cons.mpr ⟨n1_0, (List.forall_mem_cons.mpr ⟨n1_1, (List.forall_mem_cons.mpr ⟨n1_2, (List.forall_mem_cons.mpr ⟨n1_3, (List.forall_mem_cons.mpr ⟨n1_4, (List.forall_mem_cons.mpr ⟨n1_5, (List.forall_mem_cons.mpr ⟨n1_6, (fun _ hq => absurd hq List.not_mem_nil)⟩)⟩)⟩)⟩)⟩)⟩)⟩) (by decide)) (by decide) dX3_obey_1 ?_
                refine ya_aload_n 0 rfl dX3_obey_247 ?_
                refine ya_getR fo_X3_12 (hG.o0 3 rfl) (hG.lt0 3 (by decide)) (hG.l0 19 rfl) dX3_obey_248 ?_
                refine ya_aload_n 0 rfl dX3_obey_251 ?_
                refine ya_getR fo_X3_25 (hG.o0 3 rfl) (hG.lt0 3 (by decide)) (hG.l0 21 rfl) dX3_obey_252 ?_
                refine ya_iconst 0 (by decide) dX3_obey_255 ?_
                refine ya_iald (hG.s0 23 rfl) (hG.lt0 23 (by decide)) dX3_obey_256 h (fun x256 h => ?_)
                refine ya_putIb fo_X3_162 (hG.o0 4 rfl) (hG.lt0 4 (by decide)) .int pf_X2_2 rfl rfl dX3_obey_257 h (fun d257 h => ?_)
                cases h
                exact ya_vret rfl rfl rfl rfl rfl (Nat.le_refl _) dX3_obey_260
