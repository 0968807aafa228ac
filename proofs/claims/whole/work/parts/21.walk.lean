set_option maxRecDepth 20000 in
theorem c_X3_readLine {X : ya_X} {G : ya_G} {d : ya_D} {rr : ya_D} (hG : ya_Bk ya_sh ya_ln G 0) (h : f_X3_readLine d = some rr) : ya_Ct X yX3_readLine Y_X3_readLine [.ref (X.2.1 + 3), .ref (X.2.1 + 1)] G d (none, G, rr) := by
  refine ya_ct (by decide +kernel) rfl rfl (Nat.le_of_ble_eq_true rfl) ?_
  unfold f_X3_readLine at h
  show ya_E X Y_X3_readLine (ya_M X (none, G, rr) 0 0) 0 [(0, .ref (X.2.1 + 3)), (1, .ref (X.2.1 + 1))] [] G d 0 0
  refine ya_aload_n 0 rfl dX3_readLine_0 ?_
  refine ya_aload_n 1 rfl dX3_readLine_1 ?_
  obtain ⟨x2, e2, h⟩ := ya_ob h
  refine ya_callVi (S := []) (c_X3_kindHere hG e2) m_X3_kindHere ⟨rfl, rfl⟩ ml_X3_68 rfl ⟨Nat.le_of_ble_eq_true rfl, Nat.le_of_ble_eq_true rfl⟩ (Nat.le_of_ble_eq_true rfl) (hG.lt0 3 (by decide)) (hG.o0 3 rfl) (by decide) rfl rfl ⟨Nat.le_refl _, Nat.le_refl _⟩ dX3_readLine_2 rfl ?_
  refine ya_istore_n [(2, .int x2), (0, .ref (X.2.1 + 3)), (1, .ref (X.2.1 + 1))] (by decide) rfl dX3_readLine_5 ?_
  refine ya_aload_n 1 rfl dX3_readLine_6 ?_
  refine ya_getR fo_X3_12 (hG.o0 3 rfl) (hG.lt0 3 (by decide)) (hG.l0 19 rfl) dX3_readLine_7 ?_
  refine ya_getI fo_X3_72 (hG.o0 4 rfl) (hG.lt0 4 (by decide)) dX3_readLine_10 ?_
  refine ya_j1_s h (fun t0_21 => ya_E X Y_X3_readLine (ya_M X (none, G, rr) 0 0) 21 [(0, .ref (X.2.1 + 3)), (1, .ref (X.2.1 + 1)), (2, .int x2)] [.int t0_21] G d 0 0) (fun t0_21 h => ?_) (fun k21 hk21 h => ?_)
  · refine ya_istore_n [(3, .int t0_21), (0, .ref (X.2.1 + 3)), (1, .ref (X.2.1 + 1)), (2, .int x2)] (by decide) rfl dX3_readLine_21 ?_
    refine ya_iload_n 3 rfl dX3_readLine_22 ?_
    refine ya_iconst (-1) (by decide) dX3_readLine_23 ?_
    refine ya_j0_s h (ya_E X Y_X3_readLine (ya_M X (none, G, rr) 0 0) 40 [(0, .ref (X.2.1 + 3))] [] G d 0 0) (fun h => ?_) (fun k40 hk40 h => ?_)
    · refine ya_aload_n 0 rfl dX3_readLine_40 ?_
      refine ya_iconst 1 (by decide) dX3_readLine_41 ?_
      obtain ⟨d42, e42, h⟩ := ya_ob h
      refine ya_callVv (S := []) (c_X3_refuse hG e42) m_X3_refuse ⟨rfl, rfl⟩ ml_X3_75 rfl ⟨Nat.le_of_ble_eq_true rfl, Nat.le_of_ble_eq_true rfl⟩ (Nat.le_of_ble_eq_true rfl) (hG.lt0 3 (by decide)) (hG.o0 3 rfl) (by decide) rfl rfl ⟨Nat.le_refl _, Nat.le_refl _⟩ dX3_readLine_42 rfl ?_
      cases h
      exact ya_vret rfl rfl rfl rfl rfl (Nat.le_refl _) dX3_readLine_45
    · refine ya_icmp_eq 40 (by decide) dX3_readLine_24 (fun c => ?_) (fun c => ?_)
      · replace h := ya_itet h c
        refine ya_sub [(0, .ref (X.2.1 + 3))] [1] rfl ?_
        exact hk40  h
      · replace h := ya_itef h c
        refine ya_iload_n 0 rfl dX3_readLine_27 ?_
        refine ya_iload_n 3 rfl dX3_readLine_28 ?_
        refine ya_j1_s h (fun t0_37 => ya_E X Y_X3_readLine (ya_M X (none, G, rr) 0 0) 37 [(0, .ref (X.2.1 + 3)), (1, .ref (X.2.1 + 1)), (2, .int x2)] [.int t0_37, .int t0_21] G d 0 0) (fun t0_37 h => ?_) (fun k37 hk37 h => ?_)
        · refine ya_icmp_eq 46 (by decide) dX3_readLine_37 (fun c => ?_) (fun c => ?_)
          · replace h := ya_itet h c
            refine ya_aload_n 0 rfl dX3_readLine_46 ?_
            refine ya_iload_n 2 rfl dX3_readLine_47 ?_
            obtain ⟨x48, e48, h⟩ := ya_ob h
            refine ya_callVi (S := []) (c_X3_isFull hG e48) m_X3_isFull ⟨rfl, rfl⟩ ml_X3_79 rfl ⟨Nat.le_of_ble_eq_true rfl, Nat.le_of_ble_eq_true rfl⟩ (Nat.le_of_ble_eq_true rfl) (hG.lt0 3 (by decide)) (hG.o0 3 rfl) (by decide) rfl rfl ⟨Nat.le_refl _, Nat.le_refl _⟩ dX3_readLine_48 rfl ?_
            refine ya_ifeq 60 (by decide) dX3_readLine_51 (fun c => ?_) (fun c => ?_)
            · replace h := ya_itet h c
              refine ya_aload_n 0 rfl dX3_readLine_60 ?_
              refine ya_aload_n 1 rfl dX3_readLine_61 ?_
              refine ya_iload_n 2 rfl dX3_readLine_62 ?_
              obtain ⟨x63, e63, h⟩ := ya_ob h
              refine ya_callSa (S := [.ref (X.2.1 + 1), .ref (X.2.1 + 3)]) (c_X3_formOf hG e63) m_X3_formOf ⟨rfl, rfl⟩ ml_X3_83 rfl ⟨Nat.le_of_ble_eq_true rfl, Nat.le_of_ble_eq_true rfl⟩ (Nat.le_of_ble_eq_true rfl) ⟨Nat.le_refl _, Nat.le_refl _⟩ dX3_readLine_63 rfl ?_
              obtain ⟨d66, e66, h⟩ := ya_ob h
              refine ya_callVv (S := []) (c_X3_readForm hG e66) m_X3_readForm ⟨rfl, rfl⟩ ml_X3_87 rfl ⟨Nat.le_of_ble_eq_true rfl, Nat.le_of_ble_eq_true rfl⟩ (Nat.le_of_ble_eq_true rfl) (hG.lt0 3 (by decide)) (hG.o0 3 rfl) (by decide) rfl rfl ⟨Nat.le_refl _, Nat.le_refl _⟩ dX3_readLine_66 rfl ?_
              refine ya_aload_n 0 rfl dX3_readLine_69 ?_
              refine ya_getI fo_X3_29 (hG.o0 3 rfl) (hG.lt0 3 (by decide)) dX3_readLine_70 ?_
              refine ya_ifne 94 (by decide) dX3_readLine_73 (fun c => ?_) (fun c => ?_)
              · replace h := ya_itef h c
                cases h
                exact ya_vret rfl rfl rfl rfl rfl (Nat.le_refl _) dX3_readLine_94
              · replace h := ya_itet h c
                refine ya_aload_n 0 rfl dX3_readLine_76 ?_
                refine ya_getR fo_X3_12 (hG.o0 3 rfl) (hG.lt0 3 (by decide)) (hG.l0 19 rfl) dX3_readLine_77 ?_
                refine ya_dup rfl dX3_readLine_80 ?_
                refine ya_getI fo_X3_72 (hG.o0 4 rfl) (hG.lt0 4 (by decide)) dX3_readLine_81 ?_
                refine ya_iconst 1 (by decide) dX3_readLine_84 ?_
                refine ya_iadd dX3_readLine_85 ?_
                refine ya_putIb fo_X3_72 (hG.o0 4 rfl) (hG.lt0 4 (by decide)) .int pf_X2_0 rfl rfl dX3_readLine_86 h (fun d86 h => ?_)
                refine ya_aload_n 0 rfl dX3_readLine_89 ?_
                refine ya_iload_n 2 rfl dX3_readLine_90 ?_
                obtain ⟨d91, e91, h⟩ := ya_ob h
                refine ya_callVv (S := []) (c_X3_obey hG e91) m_X3_obey ⟨rfl, rfl⟩ ml_X3_91 rfl ⟨Nat.le_of_ble_eq_true rfl, Nat.le_of_ble_eq_true rfl⟩ (Nat.le_of_ble_eq_true rfl) (hG.lt0 3 (by decide)) (hG.o0 3 rfl) (by decide) rfl rfl ⟨Nat.le_refl _, Nat.le_refl _⟩ dX3_readLine_91 rfl ?_
                cases h
                exact ya_vret rfl rfl rfl rfl rfl (Nat.le_refl _) dX3_readLine_94
            · replace h := ya_itef h c
              refine ya_aload_n 0 rfl dX3_readLine_54 ?_
              refine ya_iconst 3 (by decide) dX3_readLine_55 ?_
              obtain ⟨d56, e56, h⟩ := ya_ob h
              refine ya_callVv (S := []) (c_X3_refuse hG e56) m_X3_refuse ⟨rfl, rfl⟩ ml_X3_75 rfl ⟨Nat.le_of_ble_eq_true rfl, Nat.le_of_ble_eq_true rfl⟩ (Nat.le_of_ble_eq_true rfl) (hG.lt0 3 (by decide)) (hG.o0 3 rfl) (by decide) rfl rfl ⟨Nat.le_refl _, Nat.le_refl _⟩ dX3_readLine_56 rfl ?_
              cases h
              exact ya_vret rfl rfl rfl rfl rfl (Nat.le_refl _) dX3_readLine_59
          · replace h := ya_itef h c
            refine ya_sub [(0, .ref (X.2.1 + 3))] [0] rfl ?_
            exact hk40  h
        · refine ya_ifne 36 (by decide) dX3_readLine_29 (fun c => ?_) (fun c => ?_)
          · replace h := ya_itef h c
            refine ya_iconst 0 (by decide) dX3_readLine_36 ?_
            refine ya_sub [(0, .ref (X.2.1 + 3)), (1, .ref (X.2.1 + 1)), (2, .int x2)] [1, 2, 3] rfl ?_
            exact hk37 _ h
          · replace h := ya_itet h c
            refine ya_iconst 1 (by decide) dX3_readLine_32 ?_
            refine ya_goto 37 (by decide) dX3_readLine_33 ?_
            refine ya_sub [(0, .ref (X.2.1 + 3)), (1, .ref (X.2.1 + 1)), (2, .int x2)] [1, 2, 3] rfl ?_
            exact hk37 _ h
  · refine ya_ifne 20 (by decide) dX3_readLine_13 (fun c => ?_) (fun c => ?_)
    · replace h := ya_itef h c
      refine ya_iconst 0 (by decide) dX3_readLine_20 ?_
      refine ya_sub [(0, .ref (X.2.1 + 3)), (1, .ref (X.2.1 + 1)), (2, .int x2)] [1, 2, 0] rfl ?_
      exact hk21 _ h
    · replace h := ya_itet h c
      refine ya_iconst 1 (by decide) dX3_readLine_16 ?_
      refine ya_goto 21 (by decide) dX3_readLine_17 ?_
      refine ya_sub [(0, .ref (X.2.1 + 3)), (1, .ref (X.2.1 + 1)), (2, .int x2)] [1, 2, 0] rfl ?_
      exact hk21 _ h
set_option maxRecDepth 20000 in
theorem w_X3_readAll_L26 {X : ya_X} {G : ya_G} {rr : (Int32 × ya_D)} (hG : ya_Bk ya_sh ya_ln G 0) : ∀ (n : Nat) (v2 : Int32) (d : ya_D), f_X3_readAll_L26  n v2 d = some rr → ya_E X Y_X3_readAll (ya_M X (some (.int rr.1), G, rr.2) 0 0) 26 [(0, .ref (X.2.1 + 3)), (1, .ref (X.2.1 + 1)), (2, .int v2)] [] G d 0 0 := by
  intro n
  induction n with
  | zero => intro v2 d h; cases h
  | succ n ih =>
    intro v2 d h
    rw [f_X3_readAll_L26] at h
    refine ya_iload_n 2 rfl dX3_readAll_26 ?_
    refine ya_sipush 2000 (by decide) dX3_readAll_27 ?_
    refine ya_icmp_gt 73 (by decide) dX3_readAll_30 (fun c => ?_) (fun c => ?_)
    · replace h := ya_itet h c
      refine ya_iconst 1 (by decide) dX3_readAll_73 ?_
      cases h
      exact ya_zret .boolean rfl rfl rfl rfl (by decide) rfl (Nat.le_refl _) dX3_readAll_74
    · replace h := ya_itef h c
      refine ya_aload_n 0 rfl dX3_readAll_33 ?_
      refine ya_getR fo_X3_21 (hG.o0 3 rfl) (hG.lt0 3 (by decide)) (hG.l0 20 rfl) dX3_readAll_34 ?_
      refine ya_aload_n 1 rfl dX3_readAll_37 ?_
      obtain ⟨d38, e38, h⟩ := ya_ob h
      refine ya_callVv (S := []) (c_X9_next hG e38) m_X9_next ⟨rfl, rfl⟩ ml_X3_58 rfl ⟨Nat.le_of_ble_eq_true rfl, Nat.le_of_ble_eq_true rfl⟩ (Nat.le_of_ble_eq_true rfl) (hG.lt0 22 (by decide)) (hG.o0 22 rfl) (by decide) rfl rfl ⟨Nat.le_refl _, Nat.le_refl _⟩ dX3_readAll_38 rfl ?_
      refine ya_aload_n 0 rfl dX3_readAll_41 ?_
      refine ya_getR fo_X3_21 (hG.o0 3 rfl) (hG.lt0 3 (by decide)) (hG.l0 20 rfl) dX3_readAll_42 ?_
      refine ya_getI fo_X3_62 (hG.o0 22 rfl) (hG.lt0 22 (by decide)) dX3_readAll_45 ?_
      refine ya_ifne 53 (by decide) dX3_readAll_48 (fun c => ?_) (fun c => ?_)
      · replace h := ya_itef h c
        refine ya_aload_n 0 rfl dX3_readAll_53 ?_
        refine ya_aload_n 1 rfl dX3_readAll_54 ?_
        obtain ⟨d55, e55, h⟩ := ya_ob h
        refine ya_callVv (S := []) (c_X3_readLine hG e55) m_X3_readLine ⟨rfl, rfl⟩ ml_X3_65 rfl ⟨Nat.le_of_ble_eq_true rfl, Nat.le_of_ble_eq_true rfl⟩ (Nat.le_of_ble_eq_true rfl) (hG.lt0 3 (by decide)) (hG.o0 3 rfl) (by decide) rfl rfl ⟨Nat.le_refl _, Nat.le_refl _⟩ dX3_readAll_55 rfl ?_
        refine ya_aload_n 0 rfl dX3_readAll_58 ?_
        refine ya_getI fo_X3_29 (hG.o0 3 rfl) (hG.lt0 3 (by decide)) dX3_readAll_59 ?_
        refine ya_ifeq 67 (by decide) dX3_readAll_62 (fun c => ?_) (fun c => ?_)
        · replace h := ya_itet h c
          refine ya_iinc (v2 + 1) rfl 2 rfl [(2, .int (v2 + 1)), (0, .ref (X.2.1 + 3)), (1, .ref (X.2.1 + 1))] (by decide) rfl dX3_readAll_67 ?_
          refine ya_goto 26 (by decide) dX3_readAll_70 ?_
          refine ya_sub [(0, .ref (X.2.1 + 3)), (1, .ref (X.2.1 + 1)), (2, .int (v2 + 1))] [1, 2, 0] rfl ?_
          exact ih _ _ h
        · replace h := ya_itef h c
          refine ya_iconst 0 (by decide) dX3_readAll_65 ?_
          cases h
          exact ya_zret .boolean rfl rfl rfl rfl (by decide) rfl (Nat.le_refl _) dX3_readAll_66
      · replace h := ya_itet h c
        refine ya_iconst 1 (by decide) dX3_readAll_51 ?_
        cases h
        exact ya_zret .boolean rfl rfl rfl rfl (by decide) rfl (Nat.le_refl _) dX3_readAll_52
set_option maxRecDepth 20000 in
theorem c_X3_readAll {X : ya_X} {G : ya_G} {d : ya_D} {rr : (Int32 × ya_D)} (hG : ya_Bk ya_sh ya_ln G 0) (h : f_X3_readAll d = some rr) : ya_Ct X yX3_readAll Y_X3_readAll [.ref (X.2.1 + 3), .ref (X.2.1 + 1)] G d (some (.int rr.1), G, rr.2) := by
  refine ya_ct (by decide +kernel) rfl rfl (Nat.le_of_ble_eq_true rfl) ?_
  unfold f_X3_readAll at h
  show ya_E X Y_X3_readAll (ya_M X (some (.int rr.1), G, rr.2) 0 0) 0 [(0, .ref (X.2.1 + 3)), (1, .ref (X.2.1 + 1))] [] G d 0 0
  refine ya_aload_n 0 rfl dX3_readAll_0 ?_
  refine ya_getR fo_X3_12 (hG.o0 3 rfl) (hG.lt0 3 (by decide)) (hG.l0 19 rfl) dX3_readAll_1 ?_
  obtain ⟨d4, e4, h⟩ := ya_ob h
  refine ya_callVv (S := []) (c_X2_empty hG (bk_0_4 hG) e4) m_X2_empty ⟨rfl, rfl⟩ ml_X3_52 rfl ⟨Nat.le_of_ble_eq_true rfl, Nat.le_of_ble_eq_true rfl⟩ (Nat.le_of_ble_eq_true rfl) (hG.lt0 4 (by decide)) (hG.o0 4 rfl) (by decide) rfl rfl ⟨Nat.le_refl _, Nat.le_refl _⟩ dX3_readAll_4 rfl ?_
  refine ya_aload_n 0 rfl dX3_readAll_7 ?_
  refine ya_getR fo_X3_21 (hG.o0 3 rfl) (hG.lt0 3 (by decide)) (hG.l0 20 rfl) dX3_readAll_8 ?_
  obtain ⟨d11, e11, h⟩ := ya_ob h
  refine ya_callVv (S := []) (c_X9_begin hG e11) m_X9_begin ⟨rfl, rfl⟩ ml_X3_55 rfl ⟨Nat.le_of_ble_eq_true rfl, Nat.le_of_ble_eq_true rfl⟩ (Nat.le_of_ble_eq_true rfl) (hG.lt0 22 (by decide)) (hG.o0 22 rfl) (by decide) rfl rfl ⟨Nat.le_refl _, Nat.le_refl _⟩ dX3_readAll_11 rfl ?_
  refine ya_aload_n 0 rfl dX3_readAll_14 ?_
  refine ya_iconst 0 (by decide) dX3_readAll_15 ?_
  refine ya_putIb fo_X3_29 (hG.o0 3 rfl) (hG.lt0 3 (by decide)) .int pf_X3_4 rfl rfl dX3_readAll_16 h (fun d16 h => ?_)
  refine ya_aload_n 0 rfl dX3_readAll_19 ?_
  refine ya_iconst (-1) (by decide) dX3_readAll_20 ?_
  refine ya_putIb fo_X3_33 (hG.o0 3 rfl) (hG.lt0 3 (by decide)) .int pf_X3_5 rfl rfl dX3_readAll_21 h (fun d21 h => ?_)
  refine ya_iconst 0 (by decide) dX3_readAll_24 ?_
  refine ya_istore_n [(2, .int 0), (0, .ref (X.2.1 + 3)), (1, .ref (X.2.1 + 1))] (by decide) rfl dX3_readAll_25 ?_
  refine ya_sub [(0, .ref (X.2.1 + 3)), (1, .ref (X.2.1 + 1)), (2, .int 0)] [1, 2, 0] rfl ?_
  refine w_X3_readAll_L26 hG  ya_F _ _ h
set_option maxRecDepth 20000 in
theorem c_X4_begin {X : ya_X} {G : ya_G} {a0 : Nat} {v1 : Int32} {v2 : Int32} {d : ya_D} {rr : ya_D} (hG : ya_Bk ya_sh ya_ln G 0) (h_a0 : ya_Bk shX4 lnX4 G a0) (h : f_X4_begin a0 v1 v2 d = some rr) : ya_Ct X yX4_begin Y_X4_begin [.ref (X.2.1 + a0), .int v1, .int v2] G d (none, G, rr) := by
  refine ya_ct (by decide +kernel) rfl rfl (Nat.le_of_ble_eq_true rfl) ?_
  unfold f_X4_begin at h
  show ya_E X Y_X4_begin (ya_M X (none, G, rr) 0 0) 0 [(0, .ref (X.2.1 + a0)), (1, .int v1), (2, .int v2)] [] G d 0 0
  refine ya_aload_n 0 rfl dX4_begin_0 ?_
  refine ya_iload_n 1 rfl dX4_begin_1 ?_
  refine ya_putIb fo_X4_15 (h_a0.o 0 rfl) (h_a0.lt 0 (by decide)) .int pf_X4_1 rfl rfl dX4_begin_2 h (fun d2 h => ?_)
  refine ya_aload_n 0 rfl dX4_begin_5 ?_
  refine ya_iload_n 2 rfl dX4_begin_6 ?_
  refine ya_putIb fo_X4_19 (h_a0.o 0 rfl) (h_a0.lt 0 (by decide)) .int pf_X4_2 rfl rfl dX4_begin_7 h (fun d7 h => ?_)
  refine ya_aload_n 0 rfl dX4_begin_10 ?_
  refine ya_getR fo_X4_9 (h_a0.o 0 rfl) (h_a0.lt 0 (by decide)) (h_a0.l 0 rfl) dX4_begin_11 ?_
  refine ya_lconst 0 rfl dX4_begin_14 ?_
  refine ya_fillL (h_a0.s 1 rfl) (by decide) (h_a0.lt 1 (by decide)) ml_X4_22 (by decide) (by decide) (Nat.le_of_ble_eq_true rfl) dX4_begin_15 h ⟨Nat.le_refl _, Nat.le_refl _⟩ (fun d15 h => ?_)
  cases h
  exact ya_vret rfl rfl rfl rfl rfl (Nat.le_refl _) dX4_begin_18
set_option maxRecDepth 20000 in
theorem c_X4_put {X : ya_X} {G : ya_G} {a0 : Nat} {v1 : Int32} {v2 : Int64} {d : ya_D} {rr : ya_D} (hG : ya_Bk ya_sh ya_ln G 0) (h_a0 : ya_Bk shX4 lnX4 G a0) (h : f_X4_put a0 v1 v2 d = some rr) : ya_Ct X yX4_put Y_X4_put [.ref (X.2.1 + a0), .int v1, .long v2] G d (none, G, rr) := by
  refine ya_ct (by decide +kernel) rfl rfl (Nat.le_of_ble_eq_true rfl) ?_
  unfold f_X4_put at h
  show ya_E X Y_X4_put (ya_M X (none, G, rr) 0 0) 0 [(0, .ref (X.2.1 + a0)), (1, .int v1), (2, .long v2)] [] G d 0 0
  refine ya_aload_n 0 rfl dX4_put_0 ?_
  refine ya_getI fo_X4_15 (h_a0.o 0 rfl) (h_a0.lt 0 (by decide)) dX4_put_1 ?_
  rcases ya_ite h with ⟨c4_0, h⟩ | ⟨n4_0, h⟩
  · refine ya_tswIn 0 32 c4_0 (by decide) (by decide) rfl (by decide) dX4_put_4 ?_
    refine ya_aload_n 0 rfl dX4_put_32 ?_
    refine ya_getR fo_X4_9 (h_a0.o 0 rfl) (h_a0.lt 0 (by decide)) (h_a0.l 0 rfl) dX4_put_33 ?_
    refine ya_iload_n 1 rfl dX4_put_36 ?_
    refine ya_lload_n 2 rfl dX4_put_37 ?_
    refine ya_l2i dX4_put_38 ?_
    refine ya_i2b dX4_put_39 ?_
    refine ya_i2l dX4_put_40 ?_
    refine ya_last (h_a0.s 1 rfl) (h_a0.lt 1 (by decide)) dX4_put_41 h (fun d41 h => ?_)
    refine ya_goto 77 (by decide) dX4_put_42 ?_
    cases h
    exact ya_vret rfl rfl rfl rfl rfl (Nat.le_refl _) dX4_put_77
  · rcases ya_ite h with ⟨c4_1, h⟩ | ⟨n4_1, h⟩
    · refine ya_tswIn 1 45 c4_1 (by decide) (by decide) rfl (by decide) dX4_put_4 ?_
      refine ya_aload_n 0 rfl dX4_put_45 ?_
      refine ya_getR fo_X4_9 (h_a0.o 0 rfl) (h_a0.lt 0 (by decide)) (h_a0.l 0 rfl) dX4_put_46 ?_
      refine ya_iload_n 1 rfl dX4_put_49 ?_
      refine ya_lload_n 2 rfl dX4_put_50 ?_
      refine ya_l2i dX4_put_51 ?_
      refine ya_i2s dX4_put_52 ?_
      refine ya_i2l dX4_put_53 ?_
      refine ya_last (h_a0.s 1 rfl) (h_a0.lt 1 (by decide)) dX4_put_54 h (fun d54 h => ?_)
      refine ya_goto 77 (by decide) dX4_put_55 ?_
      cases h
      exact ya_vret rfl rfl rfl rfl rfl (Nat.le_refl _) dX4_put_77
    · rcases ya_ite h with ⟨c4_2, h⟩ | ⟨n4_2, h⟩
      · refine ya_tswIn 2 58 c4_2 (by decide) (by decide) rfl (by decide) dX4_put_4 ?_
        refine ya_aload_n 0 rfl dX4_put_58 ?_
        refine ya_getR fo_X4_9 (h_a0.o 0 rfl) (h_a0.lt 0 (by decide)) (h_a0.l 0 rfl) dX4_put_59 ?_
        refine ya_iload_n 1 rfl dX4_put_62 ?_
        refine ya_lload_n 2 rfl dX4_put_63 ?_
        refine ya_l2i dX4_put_64 ?_
        refine ya_i2l dX4_put_65 ?_
        refine ya_last (h_a0.s 1 rfl) (h_a0.lt 1 (by decide)) dX4_put_66 h (fun d66 h => ?_)
        refine ya_goto 77 (by decide) dX4_put_67 ?_
        cases h
        exact ya_vret rfl rfl rfl rfl rfl (Nat.le_refl _) dX4_put_77
      · refine ya_tswOut 70 (ya_out [0, 1, 2] (List.forall_mem_cons.mpr ⟨n4_0, (List.forall_mem_cons.mpr ⟨n4_1, (List.forall_mem_cons.mpr ⟨n4_2, (fun _ hq => absurd hq List.not_mem_nil)⟩)⟩)⟩) (by decide)) (by decide) dX4_put_4 ?_
        refine ya_aload_n 0 rfl dX4_put_70 ?_
        refine ya_getR fo_X4_9 (h_a0.o 0 rfl) (h_a0.lt 0 (by decide)) (h_a0.l 0 rfl) dX4_put_71 ?_
        refine ya_iload_n 1 rfl dX4_put_74 ?_
        refine ya_lload_n 2 rfl dX4_put_75 ?_
        refine ya_last (h_a0.s 1 rfl) (h_a0.lt 1 (by decide)) dX4_put_76 h (fun d76 h => ?_)
        cases h
        exact ya_vret rfl rfl rfl rfl rfl (Nat.le_refl _) dX4_put_77
set_option maxRecDepth 20000 in
theorem c_X4_reaches {X : ya_X} {G : ya_G} {a0 : Nat} {v1 : Int32} {v2 : Int32} {d : ya_D} {rr : Int32} (hG : ya_Bk ya_sh ya_ln G 0) (h_a0 : ya_Bk shX4 lnX4 G a0) (h : f_X4_reaches a0 v1 v2 d = some rr) : ya_Ct X yX4_reaches Y_X4_reaches [.ref (X.2.1 + a0), .int v1, .int v2] G d (some (.int rr), G, d) := by
  refine ya_ct (by decide +kernel) rfl rfl (Nat.le_of_ble_eq_true rfl) ?_
  unfold f_X4_reaches at h
  show ya_E X Y_X4_reaches (ya_M X (some (.int rr), G, d) 0 0) 0 [(0, .ref (X.2.1 + a0)), (1, .int v1), (2, .int v2)] [] G d 0 0
  refine ya_iload_n 1 rfl dX4_reaches_0 ?_
  refine ya_j0_s h (ya_E X Y_X4_reaches (ya_M X (some (.int rr), G, d) 0 0) 30 [] [] G d 0 0) (fun h => ?_) (fun k30 hk30 h => ?_)
  · refine ya_iconst 0 (by decide) dX4_reaches_30 ?_
    cases h
    exact ya_zret .boolean rfl rfl rfl rfl (by decide) rfl (Nat.le_refl _) dX4_reaches_31
  · refine ya_iflt 30 (by decide) dX4_reaches_1 (fun c => ?_) (fun c => ?_)
    · replace h := ya_itet h c
      refine ya_sub [] [] rfl ?_
      exact hk30  h
    · replace h := ya_itef h c
      refine ya_iload_n 2 rfl dX4_reaches_4 ?_
      refine ya_iflt 30 (by decide) dX4_reaches_5 (fun c => ?_) (fun c => ?_)
      · replace h := ya_itet h c
        refine ya_sub [] [] rfl ?_
        exact hk30  h
      · replace h := ya_itef h c
        refine ya_iload_n 1 rfl dX4_reaches_8 ?_
        refine ya_aload_n 0 rfl dX4_reaches_9 ?_
        refine ya_getI fo_X4_19 (h_a0.o 0 rfl) (h_a0.lt 0 (by decide)) dX4_reaches_10 ?_
        refine ya_icmp_gt 30 (by decide) dX4_reaches_13 (fun c => ?_) (fun c => ?_)
        · replace h := ya_itet h c
          refine ya_sub [] [] rfl ?_
          exact hk30  h
        · replace h := ya_itef h c
          refine ya_iload_n 2 rfl dX4_reaches_16 ?_
          refine ya_aload_n 0 rfl dX4_reaches_17 ?_
          refine ya_getI fo_X4_19 (h_a0.o 0 rfl) (h_a0.lt 0 (by decide)) dX4_reaches_18 ?_
          refine ya_iload_n 1 rfl dX4_reaches_21 ?_
          refine ya_isub dX4_reaches_22 ?_
          refine ya_icmp_gt 30 (by decide) dX4_reaches_23 (fun c => ?_) (fun c => ?_)
          · replace h := ya_itet h c
            refine ya_sub [] [] rfl ?_
            exact hk30  h
          · replace h := ya_itef h c
            refine ya_iconst 1 (by decide) dX4_reaches_26 ?_
            refine ya_goto 31 (by decide) dX4_reaches_27 ?_
            cases h
            exact ya_zret .boolean rfl rfl rfl rfl (by decide) rfl (Nat.le_refl _) dX4_reaches_31
set_option maxRecDepth 20000 in
theorem c_X6_coming {X : ya_X} {G : ya_G} {a0 : Nat} {v1 : Int32} {v2 : Int32} {d : ya_D} {rr : Int32} (hG : ya_Bk ya_sh ya_ln G 0) (h_a0 : ya_Bk shX6 lnX6 G a0) (h : f_X6_coming a0 v1 v2 d = some rr) : ya_Ct X yX6_coming Y_X6_coming [.ref (X.2.1 + a0), .int v1, .int v2] G d (some (.int rr), G, d) := by
  refine ya_ct (by decide +kernel) rfl rfl (Nat.le_of_ble_eq_true rfl) ?_
  unfold f_X6_coming at h
  show ya_E X Y_X6_coming (ya_M X (some (.int rr), G, d) 0 0) 0 [(0, .ref (X.2.1 + a0)), (1, .int v1), (2, .int v2)] [] G d 0 0
  refine ya_aload_n 0 rfl dX6_coming_0 ?_
  refine ya_getR fo_X6_21 (h_a0.o 0 rfl) (h_a0.lt 0 (by decide)) (h_a0.l 3 rfl) dX6_coming_1 ?_
  refine ya_iload_n 1 rfl dX6_coming_4 ?_
  refine ya_iload_n 2 rfl dX6_coming_5 ?_
  obtain ⟨x6, e6, h⟩ := ya_ob h
  refine ya_callSNi (S := [.ref (X.2.1 + (a0 + 4))]) (c_X11_cell hG e6) m_X11_cell ⟨rfl, rfl⟩ 13 rfl rfl ⟨Nat.le_of_ble_eq_true rfl, Nat.le_of_ble_eq_true rfl⟩ (Nat.le_of_ble_eq_true rfl) ⟨Nat.le_refl _, Nat.le_refl _⟩ dX6_coming_6 rfl ?_
  refine ya_iald (h_a0.s 4 rfl) (h_a0.lt 4 (by decide)) dX6_coming_9 h (fun x9 h => ?_)
  refine ya_iload_n 2 rfl dX6_coming_10 ?_
  refine ya_j1_s h (fun t0_24 => ya_E X Y_X6_coming (ya_M X (some (.int rr), G, d) 0 0) 24 [] [.int t0_24, .int x9] G d 0 0) (fun t0_24 h => ?_) (fun k24 hk24 h => ?_)
  · refine ya_iadd dX6_coming_24 ?_
    cases h
    exact ya_iret rfl rfl rfl rfl rfl (Nat.le_refl _) dX6_coming_25
  · refine ya_ifne 23 (by decide) dX6_coming_11 (fun c => ?_) (fun c => ?_)
    · replace h := ya_itef h c
      refine ya_iconst 0 (by decide) dX6_coming_23 ?_
      refine ya_sub [] [] rfl ?_
      exact hk24 _ h
    · replace h := ya_itet h c
      refine ya_aload_n 0 rfl dX6_coming_14 ?_
      refine ya_getR fo_X6_15 (h_a0.o 0 rfl) (h_a0.lt 0 (by decide)) (h_a0.l 1 rfl) dX6_coming_15 ?_
      refine ya_iload_n 1 rfl dX6_coming_18 ?_
      refine ya_iald (h_a0.s 2 rfl) (h_a0.lt 2 (by decide)) dX6_coming_19 h (fun x19 h => ?_)
      refine ya_goto 24 (by decide) dX6_coming_20 ?_
      refine ya_sub [] [] rfl ?_
      exact hk24 _ h
set_option maxRecDepth 20000 in
theorem w_X5_load_L34 {X : ya_X} {G : ya_G} {a1 : Nat} {v2 : Int32} {v3 : Int32} {rr : ya_D} (hG : ya_Bk ya_sh ya_ln G 0) (h_a1 : ya_Bk shX2 lnX2 G a1) : ∀ (n : Nat) (v4 : Int32) (d : ya_D), f_X5_load_L34 a1 v2 v3 n v4 d = some rr → ya_E X Y_X5_load (ya_M X (none, G, rr) 0 0) 34 [(0, .ref (X.2.1 + 72)), (1, .ref (X.2.1 + a1)), (2, .int v2), (3, .int v3), (4, .int v4)] [] G d 0 0 := by
  intro n
  induction n with
  | zero => intro v4 d h; cases h
  | succ n ih =>
    intro v4 d h
    rw [f_X5_load_L34] at h
    refine ya_iload 4 rfl dX5_load_34 ?_
    refine ya_aload_n 0 rfl dX5_load_36 ?_
    refine ya_getI fo_X5_45 (hG.o0 72 rfl) (hG.lt0 72 (by decide)) dX5_load_37 ?_
    refine ya_icmp_ge 111 (by decide) dX5_load_40 (fun c => ?_) (fun c => ?_)
    · replace h := ya_itet h c
      cases h
      exact ya_vret rfl rfl rfl rfl rfl (Nat.le_refl _) dX5_load_111
    · replace h := ya_itef h c
      refine ya_aload_n 0 rfl dX5_load_43 ?_
      refine ya_getR fo_X5_9 (hG.o0 72 rfl) (hG.lt0 72 (by decide)) (hG.l0 71 rfl) dX5_load_44 ?_
      refine ya_iload 4 rfl dX5_load_47 ?_
      refine ya_aload_n 1 rfl dX5_load_49 ?_
      refine ya_getR fo_X5_46 (h_a1.o 0 rfl) (h_a1.lt 0 (by decide)) (h_a1.l 4 rfl) dX5_load_50 ?_
      refine ya_getR fo_X5_57 (h_a1.o 1 rfl) (h_a1.lt 1 (by decide)) (h_a1.l 1 rfl) dX5_load_53 ?_
      refine ya_iload_n 3 rfl dX5_load_56 ?_
      refine ya_iload 4 rfl dX5_load_57 ?_
      obtain ⟨x59, e59, h⟩ := ya_ob h
      refine ya_callSNi (S := [.ref (X.2.1 + (a1 + 3)), .int v4, .ref (X.2.1 + 73)]) (c_X11_cell hG e59) m_X11_cell ⟨rfl, rfl⟩ 15 rfl rfl ⟨Nat.le_of_ble_eq_true rfl, Nat.le_of_ble_eq_true rfl⟩ (Nat.le_of_ble_eq_true rfl) ⟨Nat.le_refl _, Nat.le_refl _⟩ dX5_load_59 rfl ?_
      refine ya_iald (h_a1.s 3 rfl) (h_a1.lt 3 (by decide)) dX5_load_62 h (fun x62 h => ?_)
      refine ya_iast (hG.s0 73 rfl) (hG.lt0 73 (by decide)) dX5_load_63 h (fun d63 h => ?_)
      refine ya_aload_n 0 rfl dX5_load_64 ?_
      refine ya_getR fo_X5_15 (hG.o0 72 rfl) (hG.lt0 72 (by decide)) (hG.l0 72 rfl) dX5_load_65 ?_
      refine ya_iload 4 rfl dX5_load_68 ?_
      refine ya_aload_n 1 rfl dX5_load_70 ?_
      refine ya_getR fo_X5_62 (h_a1.o 0 rfl) (h_a1.lt 0 (by decide)) (h_a1.l 16 rfl) dX5_load_71 ?_
      refine ya_iload_n 3 rfl dX5_load_74 ?_
      refine ya_iload 4 rfl dX5_load_75 ?_
      refine ya_aload_n 0 rfl dX5_load_77 ?_
      refine ya_getR fo_X5_9 (hG.o0 72 rfl) (hG.lt0 72 (by decide)) (hG.l0 71 rfl) dX5_load_78 ?_
      refine ya_iload 4 rfl dX5_load_81 ?_
      refine ya_iald (hG.s0 73 rfl) (hG.lt0 73 (by decide)) dX5_load_83 h (fun x83 h => ?_)
      obtain ⟨x84, e84, h⟩ := ya_ob h
      refine ya_callVi (S := [.int v4, .ref (X.2.1 + 74)]) (c_X1_wanted hG (bk_X2_11 h_a1) e84) m_X1_wanted ⟨rfl, rfl⟩ ml_X5_66 rfl ⟨Nat.le_of_ble_eq_true rfl, Nat.le_of_ble_eq_true rfl⟩ (Nat.le_of_ble_eq_true rfl) (h_a1.lt 11 (by decide)) (h_a1.o 11 rfl) (by decide) rfl rfl ⟨Nat.le_refl _, Nat.le_refl _⟩ dX5_load_84 rfl ?_
      refine ya_iast (hG.s0 74 rfl) (hG.lt0 74 (by decide)) dX5_load_87 h (fun d87 h => ?_)
      refine ya_aload_n 0 rfl dX5_load_88 ?_
      refine ya_getR fo_X5_18 (hG.o0 72 rfl) (hG.lt0 72 (by decide)) (hG.l0 73 rfl) dX5_load_89 ?_
      refine ya_iload 4 rfl dX5_load_92 ?_
      refine ya_aload_n 1 rfl dX5_load_94 ?_
      refine ya_getR fo_X5_30 (h_a1.o 0 rfl) (h_a1.lt 0 (by decide)) (h_a1.l 9 rfl) dX5_load_95 ?_
      refine ya_iload_n 2 rfl dX5_load_98 ?_
      refine ya_iload 4 rfl dX5_load_99 ?_
      obtain ⟨x101, e101, h⟩ := ya_ob h
      refine ya_callVi (S := [.int v4, .ref (X.2.1 + 75)]) (c_X6_coming hG (bk_X2_6 h_a1) e101) m_X6_coming ⟨rfl, rfl⟩ ml_X5_72 rfl ⟨Nat.le_of_ble_eq_true rfl, Nat.le_of_ble_eq_true rfl⟩ (Nat.le_of_ble_eq_true rfl) (h_a1.lt 6 (by decide)) (h_a1.o 6 rfl) (by decide) rfl rfl ⟨Nat.le_refl _, Nat.le_refl _⟩ dX5_load_101 rfl ?_
      refine ya_iast (hG.s0 75 rfl) (hG.lt0 75 (by decide)) dX5_load_104 h (fun d104 h => ?_)
      refine ya_iinc (v4 + 1) rfl 4 rfl [(4, .int (v4 + 1)), (0, .ref (X.2.1 + 72)), (1, .ref (X.2.1 + a1)), (2, .int v2), (3, .int v3)] (by decide) rfl dX5_load_105 ?_
      refine ya_goto 34 (by decide) dX5_load_108 ?_
      refine ya_sub [(0, .ref (X.2.1 + 72)), (1, .ref (X.2.1 + a1)), (2, .int v2), (3, .int v3), (4, .int (v4 + 1))] [1, 2, 3, 4, 0] rfl ?_
      exact ih _ _ h
set_option maxRecDepth 20000 in
theorem c_X5_load {X : ya_X} {G : ya_G} {a1 : Nat} {v2 : Int32} {d : ya_D} {rr : ya_D} (hG : ya_Bk ya_sh ya_ln G 0) (h_a1 : ya_Bk shX2 lnX2 G a1) (h : f_X5_load a1 v2 d = some rr) : ya_Ct X yX5_load Y_X5_load [.ref (X.2.1 + 72), .ref (X.2.1 + a1), .int v2] G d (none, G, rr) := by
  refine ya_ct (by decide +kernel) rfl rfl (Nat.le_of_ble_eq_true rfl) ?_
  unfold f_X5_load at h
  show ya_E X Y_X5_load (ya_M X (none, G, rr) 0 0) 0 [(0, .ref (X.2.1 + 72)), (1, .ref (X.2.1 + a1)), (2, .int v2)] [] G d 0 0
  refine ya_aload_n 1 rfl dX5_load_0 ?_
  refine ya_getR fo_X5_30 (h_a1.o 0 rfl) (h_a1.lt 0 (by decide)) (h_a1.l 9 rfl) dX5_load_1 ?_
  refine ya_getR fo_X5_36 (h_a1.o 6 rfl) (h_a1.lt 6 (by decide)) (h_a1.l 5 rfl) dX5_load_4 ?_
  refine ya_iload_n 2 rfl dX5_load_7 ?_
  refine ya_iald (h_a1.s 7 rfl) (h_a1.lt 7 (by decide)) dX5_load_8 h (fun x8 h => ?_)
  refine ya_istore_n [(3, .int x8), (0, .ref (X.2.1 + 72)), (1, .ref (X.2.1 + a1)), (2, .int v2)] (by decide) rfl dX5_load_9 ?_
  refine ya_aload_n 1 rfl dX5_load_10 ?_
  refine ya_aload_n 2 rfl dX5_load_11 ?_
  refine ya_getI fo_X5_41 (h_a1.o 0 rfl) (h_a1.lt 0 (by decide)) dX5_load_12 ?_
  refine ya_putIb fo_X5_45 (hG.o0 72 rfl) (hG.lt0 72 (by decide)) .int pf_X5_6 rfl rfl dX5_load_15 h (fun d15 h => ?_)
  refine ya_aload_n 1 rfl dX5_load_18 ?_
  refine ya_aload_n 2 rfl dX5_load_19 ?_
  refine ya_getR fo_X5_46 (h_a1.o 0 rfl) (h_a1.lt 0 (by decide)) (h_a1.l 4 rfl) dX5_load_20 ?_
  refine ya_getR fo_X5_50 (h_a1.o 1 rfl) (h_a1.lt 1 (by decide)) (h_a1.l 0 rfl) dX5_load_23 ?_
  refine ya_iload_n 0 rfl dX5_load_26 ?_
  refine ya_iald (h_a1.s 2 rfl) (h_a1.lt 2 (by decide)) dX5_load_27 h (fun x27 h => ?_)
  refine ya_putIb fo_X5_55 (hG.o0 72 rfl) (hG.lt0 72 (by decide)) .int pf_X5_7 rfl rfl dX5_load_28 h (fun d28 h => ?_)
  refine ya_iconst 0 (by decide) dX5_load_31 ?_
  refine ya_istore [(4, .int 0), (3, .int x8), (0, .ref (X.2.1 + 72)), (1, .ref (X.2.1 + a1)), (2, .int v2)] (by decide) rfl dX5_load_32 ?_
  refine ya_sub [(0, .ref (X.2.1 + 72)), (1, .ref (X.2.1 + a1)), (2, .int v2), (3, .int x8), (4, .int 0)] [2, 3, 4, 1, 0] rfl ?_
  refine w_X5_load_L34 hG h_a1  ya_F _ _ h
set_option maxRecDepth 20000 in
theorem w_X5_orderDays_L37 {X : ya_X} {G : ya_G} {v1 : Int32} {v2 : Int32} {rr : (Int32 × ya_D)} {e88 : Int32 → ya_D → Option (Int32 × ya_D)} (hG : ya_Bk ya_sh ya_ln G 0) (he88 : ∀ (v3 : Int32) (d : ya_D), e88 v3 d = some rr → ya_E X Y_X5_orderDays (ya_M X (some (.int rr.1), G, rr.2) 0 0) 88 [(0, .ref (X.2.1 + 72)), (1, .int v1), (2, .int v2), (3, .int v3)] [] G d 0 0) : ∀ (n : Nat) (v3 : Int32) (v4 : Int32) (d : ya_D), f_X5_orderDays_L37 v1 v2 e88 n v3 v4 d = some rr → ya_E X Y_X5_orderDays (ya_M X (some (.int rr.1), G, rr.2) 0 0) 37 [(0, .ref (X.2.1 + 72)), (1, .int v1), (2, .int v2), (3, .int v3), (4, .int v4)] [] G d 0 0 := by
  intro n
  induction n with
  | zero => intro v3 v4 d h; cases h
  | succ n ih =>
    intro v3 v4 d h
    rw [f_X5_orderDays_L37] at h
    refine ya_iload 4 rfl dX5_orderDays_37 ?_
    refine ya_iflt 88 (by decide) dX5_orderDays_39 (fun c => ?_) (fun c => ?_)
    · replace h := ya_itet h c
      refine ya_sub [(0, .ref (X.2.1 + 72)), (1, .int v1), (2, .int v2), (3, .int v3)] [0, 1, 2, 3] rfl ?_
      exact he88 _ _ h
    · replace h := ya_itef h c
      refine ya_aload_n 0 rfl dX5_orderDays_42 ?_
      refine ya_getR fo_X5_9 (hG.o0 72 rfl) (hG.lt0 72 (by decide)) (hG.l0 71 rfl) dX5_orderDays_43 ?_
      refine ya_aload_n 0 rfl dX5_orderDays_46 ?_
      refine ya_getR fo_X5_27 (hG.o0 72 rfl) (hG.lt0 72 (by decide)) (hG.l0 76 rfl) dX5_orderDays_47 ?_
      refine ya_iload 4 rfl dX5_orderDays_50 ?_
      refine ya_iald (hG.s0 78 rfl) (hG.lt0 78 (by decide)) dX5_orderDays_52 h (fun x52 h => ?_)
      refine ya_iald (hG.s0 73 rfl) (hG.lt0 73 (by decide)) dX5_orderDays_53 h (fun x53 h => ?_)
      refine ya_aload_n 0 rfl dX5_orderDays_54 ?_
      refine ya_getR fo_X5_9 (hG.o0 72 rfl) (hG.lt0 72 (by decide)) (hG.l0 71 rfl) dX5_orderDays_55 ?_
      refine ya_iload_n 2 rfl dX5_orderDays_58 ?_
      refine ya_iald (hG.s0 73 rfl) (hG.lt0 73 (by decide)) dX5_orderDays_59 h (fun x59 h => ?_)
      refine ya_icmp_ge 88 (by decide) dX5_orderDays_60 (fun c => ?_) (fun c => ?_)
      · replace h := ya_itet h c
        refine ya_sub [(0, .ref (X.2.1 + 72)), (1, .int v1), (2, .int v2), (3, .int v3)] [0, 1, 2, 3] rfl ?_
        exact he88 _ _ h
      · replace h := ya_itef h c
        refine ya_aload_n 0 rfl dX5_orderDays_63 ?_
        refine ya_getR fo_X5_27 (hG.o0 72 rfl) (hG.lt0 72 (by decide)) (hG.l0 76 rfl) dX5_orderDays_64 ?_
        refine ya_iload 4 rfl dX5_orderDays_67 ?_
        refine ya_iconst 1 (by decide) dX5_orderDays_69 ?_
        refine ya_iadd dX5_orderDays_70 ?_
        refine ya_aload_n 0 rfl dX5_orderDays_71 ?_
        refine ya_getR fo_X5_27 (hG.o0 72 rfl) (hG.lt0 72 (by decide)) (hG.l0 76 rfl) dX5_orderDays_72 ?_
        refine ya_iload 4 rfl dX5_orderDays_75 ?_
        refine ya_iald (hG.s0 78 rfl) (hG.lt0 78 (by decide)) dX5_orderDays_77 h (fun x77 h => ?_)
        refine ya_iast (hG.s0 78 rfl) (hG.lt0 78 (by decide)) dX5_orderDays_78 h (fun d78 h => ?_)
        refine ya_iload 4 rfl dX5_orderDays_79 ?_
        refine ya_istore_n [(3, .int v4), (0, .ref (X.2.1 + 72)), (1, .int v1), (2, .int v2), (4, .int v4)] (by decide) rfl dX5_orderDays_81 ?_
        refine ya_iinc (v4 + (-1)) (congrArg (fun z => v4 + z) (by decide : Int32.ofInt (-1) = (-1))) 4 rfl [(4, .int (v4 + (-1))), (3, .int v4), (0, .ref (X.2.1 + 72)), (1, .int v1), (2, .int v2)] (by decide) rfl dX5_orderDays_82 ?_
        refine ya_goto 37 (by decide) dX5_orderDays_85 ?_
        refine ya_sub [(0, .ref (X.2.1 + 72)), (1, .int v1), (2, .int v2), (3, .int v4), (4, .int (v4 + (-1)))] [2, 3, 4, 1, 0] rfl ?_
        exact ih _ _ _ h
set_option maxRecDepth 20000 in
theorem w_X5_orderDays_L4 {X : ya_X} {G : ya_G} {rr : (Int32 × ya_D)} (hG : ya_Bk ya_sh ya_ln G 0) : ∀ (n : Nat) (v1 : Int32) (v2 : Int32) (d : ya_D), f_X5_orderDays_L4  n v1 v2 d = some rr → ya_E X Y_X5_orderDays (ya_M X (some (.int rr.1), G, rr.2) 0 0) 4 [(0, .ref (X.2.1 + 72)), (1, .int v1), (2, .int v2)] [] G d 0 0 := by
  intro n
  induction n with
  | zero => intro v1 v2 d h; cases h
  | succ n ih =>
    intro v1 v2 d h
    rw [f_X5_orderDays_L4] at h
    refine ya_iload_n 2 rfl dX5_orderDays_4 ?_
    refine ya_aload_n 0 rfl dX5_orderDays_5 ?_
    refine ya_getI fo_X5_45 (hG.o0 72 rfl) (hG.lt0 72 (by decide)) dX5_orderDays_6 ?_
    refine ya_icmp_ge 104 (by decide) dX5_orderDays_9 (fun c => ?_) (fun c => ?_)
    · replace h := ya_itet h c
      refine ya_iload_n 1 rfl dX5_orderDays_104 ?_
      cases h
      exact ya_iret rfl rfl rfl rfl rfl (Nat.le_refl _) dX5_orderDays_105
    · replace h := ya_itef h c
      refine ya_aload_n 0 rfl dX5_orderDays_12 ?_
      refine ya_getR fo_X5_9 (hG.o0 72 rfl) (hG.lt0 72 (by decide)) (hG.l0 71 rfl) dX5_orderDays_13 ?_
      refine ya_iload_n 2 rfl dX5_orderDays_16 ?_
      refine ya_iald (hG.s0 73 rfl) (hG.lt0 73 (by decide)) dX5_orderDays_17 h (fun x17 h => ?_)
      refine ya_j2_s h (fun v1_98 d_98 => ya_E X Y_X5_orderDays (ya_M X (some (.int rr.1), G, rr.2) 0 0) 98 [(0, .ref (X.2.1 + 72)), (1, .int v1_98), (2, .int v2)] [] G d_98 0 0) (fun v1_98 d_98 h => ?_) (fun k98 hk98 h => ?_)
      · refine ya_iinc (v2 + 1) rfl 2 rfl [(2, .int (v2 + 1)), (0, .ref (X.2.1 + 72)), (1, .int v1_98)] (by decide) rfl dX5_orderDays_98 ?_
        refine ya_goto 4 (by decide) dX5_orderDays_101 ?_
        refine ya_sub [(0, .ref (X.2.1 + 72)), (1, .int v1_98), (2, .int (v2 + 1))] [1, 2, 0] rfl ?_
        exact ih _ _ _ h
      · refine ya_ifle 98 (by decide) dX5_orderDays_18 (fun c => ?_) (fun c => ?_)
        · replace h := ya_itet h c
          exact hk98 _ _ h
        · replace h := ya_itef h c
          refine ya_aload_n 0 rfl dX5_orderDays_21 ?_
          refine ya_getR fo_X5_15 (hG.o0 72 rfl) (hG.lt0 72 (by decide)) (hG.l0 72 rfl) dX5_orderDays_22 ?_
          refine ya_iload_n 2 rfl dX5_orderDays_25 ?_
          refine ya_iald (hG.s0 74 rfl) (hG.lt0 74 (by decide)) dX5_orderDays_26 h (fun x26 h => ?_)
          refine ya_ifle 98 (by decide) dX5_orderDays_27 (fun c => ?_) (fun c => ?_)
          · replace h := ya_itet h c
            exact hk98 _ _ h
          · replace h := ya_itef h c
            refine ya_iload_n 1 rfl dX5_orderDays_30 ?_
            refine ya_istore_n [(3, .int v1), (0, .ref (X.2.1 + 72)), (1, .int v1), (2, .int v2)] (by decide) rfl dX5_orderDays_31 ?_
            refine ya_iload_n 2 rfl dX5_orderDays_32 ?_
            refine ya_iconst 1 (by decide) dX5_orderDays_33 ?_
            refine ya_isub dX5_orderDays_34 ?_
            refine ya_istore [(4, .int (v1 - 1)), (3, .int v1), (0, .ref (X.2.1 + 72)), (1, .int v1), (2, .int v2)] (by decide) rfl dX5_orderDays_35 ?_
            refine ya_sub [(0, .ref (X.2.1 + 72)), (1, .int v1), (2, .int v2), (3, .int v1), (4, .int (v1 - 1))] [2, 3, 4, 1, 0] rfl ?_
            refine w_X5_orderDays_L37 hG (fun v3_88 d_88 h => ?_) ya_F _ _ _ h
            refine ya_aload_n 0 rfl dX5_orderDays_88 ?_
            refine ya_getR fo_X5_27 (hG.o0 72 rfl) (hG.lt0 72 (by decide)) (hG.l0 76 rfl) dX5_orderDays_89 ?_
            refine ya_iload_n 3 rfl dX5_orderDays_92 ?_
            refine ya_iload_n 2 rfl dX5_orderDays_93 ?_
            refine ya_iast (hG.s0 78 rfl) (hG.lt0 78 (by decide)) dX5_orderDays_94 h (fun d94 h => ?_)
            refine ya_iinc (v1 + 1) rfl 1 rfl [(1, .int (v1 + 1)), (0, .ref (X.2.1 + 72)), (2, .int v2), (3, .int v3_88)] (by decide) rfl dX5_orderDays_95 ?_
            refine ya_sub [(0, .ref (X.2.1 + 72)), (1, .int (v1 + 1)), (2, .int v2)] [1, 0, 2] rfl ?_
            exact hk98 _ _ h
set_option maxRecDepth 20000 in
theorem c_X5_orderDays {X : ya_X} {G : ya_G} {d : ya_D} {rr : (Int32 × ya_D)} (hG : ya_Bk ya_sh ya_ln G 0) (h : f_X5_orderDays d = some rr) : ya_Ct X yX5_orderDays Y_X5_orderDays [.ref (X.2.1 + 72)] G d (some (.int rr.1), G, rr.2) := by
  refine ya_ct (by decide +kernel) rfl rfl (Nat.le_of_ble_eq_true rfl) ?_
  unfold f_X5_orderDays at h
  show ya_E X Y_X5_orderDays (ya_M X (some (.int rr.1), G, rr.2) 0 0) 0 [(0, .ref (X.2.1 + 72))] [] G d 0 0
  refine ya_iconst 0 (by decide) dX5_orderDays_0 ?_
  refine ya_istore_n [(1, .int 0), (0, .ref (X.2.1 + 72))] (by decide) rfl dX5_orderDays_1 ?_
  refine ya_iconst 0 (by decide) dX5_orderDays_2 ?_
  refine ya_istore_n [(2, .int 0), (1, .int 0), (0, .ref (X.2.1 + 72))] (by decide) rfl dX5_orderDays_3 ?_
  refine ya_sub [(0, .ref (X.2.1 + 72)), (1, .int 0), (2, .int 0)] [2, 1, 0] rfl ?_
  refine w_X5_orderDays_L4 hG  ya_F _ _ _ h
set_option maxRecDepth 20000 in
theorem w_X5_missing_L46 {X : ya_X} {G : ya_G} {v1 : Int32} {v2 : Int32} {rr : (Int32 × ya_D)} {e92 : Int32 → ya_D → Option (Int32 × ya_D)} (hG : ya_Bk ya_sh ya_ln G 0) (he92 : ∀ (v3 : Int32) (d : ya_D), e92 v3 d = some rr → ya_E X Y_X5_missing (ya_M X (some (.int rr.1), G, rr.2) 0 0) 92 [(0, .ref (X.2.1 + 72)), (1, .int v1), (2, .int v2), (3, .int v3)] [] G d 0 0) : ∀ (n : Nat) (v3 : Int32) (v4 : Int32) (d : ya_D), f_X5_missing_L46 v1 v2 e92 n v3 v4 d = some rr → ya_E X Y_X5_missing (ya_M X (some (.int rr.1), G, rr.2) 0 0) 46 [(0, .ref (X.2.1 + 72)), (1, .int v1), (2, .int v2), (3, .int v3), (4, .int v4)] [] G d 0 0 := by
  intro n
  induction n with
  | zero => intro v3 v4 d h; cases h
  | succ n ih =>
    intro v3 v4 d h
    rw [f_X5_missing_L46] at h
    refine ya_iload 4 rfl dX5_missing_46 ?_
    refine ya_iload_n 2 rfl dX5_missing_48 ?_
    refine ya_icmp_gt 92 (by decide) dX5_missing_49 (fun c => ?_) (fun c => ?_)
    · replace h := ya_itet h c
      refine ya_sub [(0, .ref (X.2.1 + 72)), (1, .int v1), (2, .int v2), (3, .int v3)] [0, 1, 2, 3] rfl ?_
      exact he92 _ _ h
    · replace h := ya_itef h c
      refine ya_iload_n 3 rfl dX5_missing_52 ?_
      refine ya_ifle 92 (by decide) dX5_missing_53 (fun c => ?_) (fun c => ?_)
      · replace h := ya_itet h c
        refine ya_sub [(0, .ref (X.2.1 + 72)), (1, .int v1), (2, .int v2), (3, .int v3)] [0, 1, 2, 3] rfl ?_
        exact he92 _ _ h
      · replace h := ya_itef h c
        refine ya_iload_n 3 rfl dX5_missing_56 ?_
        refine ya_aload_n 0 rfl dX5_missing_57 ?_
        refine ya_getR fo_X5_24 (hG.o0 72 rfl) (hG.lt0 72 (by decide)) (hG.l0 75 rfl) dX5_missing_58 ?_
        refine ya_iload 4 rfl dX5_missing_61 ?_
        refine ya_iald (hG.s0 77 rfl) (hG.lt0 77 (by decide)) dX5_missing_63 h (fun x63 h => ?_)
        refine ya_mmin ml_X5_101 wm_min1 wm_min2 wm_min3 (by decide) (Nat.le_of_ble_eq_true rfl) ⟨Nat.le_refl _, Nat.le_refl _⟩ dX5_missing_64 ?_
        refine ya_istore [(5, .int (ya_min v3 x63)), (0, .ref (X.2.1 + 72)), (1, .int v1), (2, .int v2), (3, .int v3), (4, .int v4)] (by decide) rfl dX5_missing_67 ?_
        refine ya_aload_n 1 rfl dX5_missing_69 ?_
        refine ya_getR fo_X5_24 (hG.o0 72 rfl) (hG.lt0 72 (by decide)) (hG.l0 75 rfl) dX5_missing_70 ?_
        refine ya_iload 5 rfl dX5_missing_73 ?_
        refine ya_dup2 rfl rfl dX5_missing_75 ?_
        refine ya_iald (hG.s0 77 rfl) (hG.lt0 77 (by decide)) dX5_missing_76 h (fun x76 h => ?_)
        refine ya_iload 0 rfl dX5_missing_77 ?_
        refine ya_isub dX5_missing_79 ?_
        refine ya_iast (hG.s0 77 rfl) (hG.lt0 77 (by decide)) dX5_missing_80 h (fun d80 h => ?_)
        refine ya_iload_n 4 rfl dX5_missing_81 ?_
        refine ya_iload 0 rfl dX5_missing_82 ?_
        refine ya_isub dX5_missing_84 ?_
        refine ya_istore_n [(3, .int (v3 - (ya_min v3 x63))), (5, .int (ya_min v3 x63)), (0, .ref (X.2.1 + 72)), (1, .int v1), (2, .int v2), (4, .int v4)] (by decide) rfl dX5_missing_85 ?_
        refine ya_iinc (v4 + 1) rfl 5 rfl [(4, .int (v4 + 1)), (3, .int (v3 - (ya_min v3 x63))), (5, .int (ya_min v3 x63)), (0, .ref (X.2.1 + 72)), (1, .int v1), (2, .int v2)] (by decide) rfl dX5_missing_86 ?_
        refine ya_goto 46 (by decide) dX5_missing_89 ?_
        refine ya_sub [(0, .ref (X.2.1 + 72)), (1, .int v1), (2, .int v2), (3, .int (v3 - (ya_min v3 x63))), (4, .int (v4 + 1))] [3, 4, 5, 1, 0] rfl ?_
        exact ih _ _ _ h
set_option maxRecDepth 20000 in
theorem w_X5_missing_L19 {X : ya_X} {G : ya_G} {rr : (Int32 × ya_D)} (hG : ya_Bk ya_sh ya_ln G 0) : ∀ (n : Nat) (v1 : Int32) (v2 : Int32) (d : ya_D), f_X5_missing_L19  n v1 v2 d = some rr → ya_E X Y_X5_missing (ya_M X (some (.int rr.1), G, rr.2) 0 0) 19 [(0, .ref (X.2.1 + 72)), (1, .int v1), (2, .int v2)] [] G d 0 0 := by
  intro n
  induction n with
  | zero => intro v1 v2 d h; cases h
  | succ n ih =>
    intro v1 v2 d h
    rw [f_X5_missing_L19] at h
    refine ya_iload_n 2 rfl dX5_missing_19 ?_
    refine ya_aload_n 0 rfl dX5_missing_20 ?_
    refine ya_getI fo_X5_45 (hG.o0 72 rfl) (hG.lt0 72 (by decide)) dX5_missing_21 ?_
    refine ya_icmp_ge 102 (by decide) dX5_missing_24 (fun c => ?_) (fun c => ?_)
    · replace h := ya_itet h c
      refine ya_iload_n 1 rfl dX5_missing_102 ?_
      cases h
      exact ya_iret rfl rfl rfl rfl rfl (Nat.le_refl _) dX5_missing_103
    · replace h := ya_itef h c
      refine ya_aload_n 0 rfl dX5_missing_27 ?_
      refine ya_getR fo_X5_21 (hG.o0 72 rfl) (hG.lt0 72 (by decide)) (hG.l0 74 rfl) dX5_missing_28 ?_
      refine ya_iload_n 2 rfl dX5_missing_31 ?_
      refine ya_iald (hG.s0 76 rfl) (hG.lt0 76 (by decide)) dX5_missing_32 h (fun x32 h => ?_)
      refine ya_istore_n [(3, .int x32), (0, .ref (X.2.1 + 72)), (1, .int v1), (2, .int v2)] (by decide) rfl dX5_missing_33 ?_
      refine ya_iconst 0 (by decide) dX5_missing_34 ?_
      refine ya_iload_n 3 rfl dX5_missing_35 ?_
      refine ya_aload_n 1 rfl dX5_missing_36 ?_
      refine ya_getI fo_X5_55 (hG.o0 72 rfl) (hG.lt0 72 (by decide)) dX5_missing_37 ?_
      refine ya_isub dX5_missing_40 ?_
      refine ya_mmax ml_X5_96 wm_max1 wm_max2 wm_max3 (by decide) (Nat.le_of_ble_eq_true rfl) ⟨Nat.le_refl _, Nat.le_refl _⟩ dX5_missing_41 ?_
      refine ya_istore [(4, .int (ya_max 0 (v2 - (d.1 72 7)))), (3, .int x32), (0, .ref (X.2.1 + 72)), (1, .int v1), (2, .int v2)] (by decide) rfl dX5_missing_44 ?_
      refine ya_sub [(0, .ref (X.2.1 + 72)), (1, .int v1), (2, .int v2), (3, .int x32), (4, .int (ya_max 0 (v2 - (d.1 72 7))))] [2, 3, 4, 1, 0] rfl ?_
      refine w_X5_missing_L46 hG (fun v3_92 d_92 h => ?_) ya_F _ _ _ h
      refine ya_iload_n 1 rfl dX5_missing_92 ?_
      refine ya_iload_n 3 rfl dX5_missing_93 ?_
      refine ya_iadd dX5_missing_94 ?_
      refine ya_istore_n [(1, .int (v1 + v3_92)), (0, .ref (X.2.1 + 72)), (2, .int v2), (3, .int v3_92)] (by decide) rfl dX5_missing_95 ?_
      refine ya_iinc (v2 + 1) rfl 2 rfl [(2, .int (v2 + 1)), (1, .int (v1 + v3_92)), (0, .ref (X.2.1 + 72)), (3, .int v3_92)] (by decide) rfl dX5_missing_96 ?_
      refine ya_goto 19 (by decide) dX5_missing_99 ?_
      refine ya_sub [(0, .ref (X.2.1 + 72)), (1, .int (v1 + v3_92)), (2, .int (v2 + 1))] [2, 1, 0] rfl ?_
      exact ih _ _ _ h
set_option maxRecDepth 20000 in
theorem c_X5_missing {X : ya_X} {G : ya_G} {d : ya_D} {rr : (Int32 × ya_D)} (hG : ya_Bk ya_sh ya_ln G 0) (h : f_X5_missing d = some rr) : ya_Ct X yX5_missing Y_X5_missing [.ref (X.2.1 + 72)] G d (some (.int rr.1), G, rr.2) := by
  refine ya_ct (by decide +kernel) rfl rfl (Nat.le_of_ble_eq_true rfl) ?_
  unfold f_X5_missing at h
  show ya_E X Y_X5_missing (ya_M X (some (.int rr.1), G, rr.2) 0 0) 0 [(0, .ref (X.2.1 + 72))] [] G d 0 0
  refine ya_aload_n 0 rfl dX5_missing_0 ?_
  refine ya_getR fo_X5_18 (hG.o0 72 rfl) (hG.lt0 72 (by decide)) (hG.l0 73 rfl) dX5_missing_1 ?_
  refine ya_iconst 0 (by decide) dX5_missing_4 ?_
  refine ya_aload_n 0 rfl dX5_missing_5 ?_
  refine ya_getR fo_X5_24 (hG.o0 72 rfl) (hG.lt0 72 (by decide)) (hG.l0 75 rfl) dX5_missing_6 ?_
  refine ya_iconst 0 (by decide) dX5_missing_9 ?_
  refine ya_bipush 20 (by decide) dX5_missing_10 ?_
  refine ya_copyI (hG.s0 75 rfl) (hG.lt0 75 (by decide)) (hG.s0 77 rfl) (hG.lt0 77 (by decide)) ml_X5_90 wm_cp1 wm_cp2 wm_cp3 (by decide) (Nat.le_of_ble_eq_true rfl) dX5_missing_12 h (fun d12 h => ?_)
  refine ya_iconst 0 (by decide) dX5_missing_15 ?_
  refine ya_istore_n [(1, .int 0), (0, .ref (X.2.1 + 72))] (by decide) rfl dX5_missing_16 ?_
  refine ya_iconst 0 (by decide) dX5_missing_17 ?_
  refine ya_istore_n [(2, .int 0), (1, .int 0), (0, .ref (X.2.1 + 72))] (by decide) rfl dX5_missing_18 ?_
  refine ya_sub [(0, .ref (X.2.1 + 72)), (1, .int 0), (2, .int 0)] [2, 1, 0] rfl ?_
  refine w_X5_missing_L19 hG  ya_F _ _ _ h
set_option maxRecDepth 20000 in
theorem w_X5_bring_L17 {X : ya_X} {G : ya_G} {v1 : Int32} {rr : (Int32 × ya_D)} (hG : ya_Bk ya_sh ya_ln G 0) : ∀ (n : Nat) (v2 : Int32) (v3 : Int32) (d : ya_D), f_X5_bring_L17 v1 n v2 v3 d = some rr → ya_E X Y_X5_bring (ya_M X (some (.int rr.1), G, rr.2) 0 0) 17 [(0, .ref (X.2.1 + 72)), (1, .int v1), (2, .int v2), (3, .int v3)] [] G d 0 0 := by
  intro n
  induction n with
  | zero => intro v2 v3 d h; cases h
  | succ n ih =>
    intro v2 v3 d h
    rw [f_X5_bring_L17] at h
    refine ya_iload_n 3 rfl dX5_bring_17 ?_
    refine ya_iload_n 1 rfl dX5_bring_18 ?_
    refine ya_icmp_ge 82 (by decide) dX5_bring_19 (fun c => ?_) (fun c => ?_)
    · replace h := ya_itet h c
      refine ya_iload_n 2 rfl dX5_bring_82 ?_
      cases h
      exact ya_iret rfl rfl rfl rfl rfl (Nat.le_refl _) dX5_bring_83
    · replace h := ya_itef h c
      refine ya_aload_n 0 rfl dX5_bring_22 ?_
      refine ya_getR fo_X5_27 (hG.o0 72 rfl) (hG.lt0 72 (by decide)) (hG.l0 76 rfl) dX5_bring_23 ?_
      refine ya_iload_n 3 rfl dX5_bring_26 ?_
      refine ya_iald (hG.s0 78 rfl) (hG.lt0 78 (by decide)) dX5_bring_27 h (fun x27 h => ?_)
      refine ya_istore [(4, .int x27), (0, .ref (X.2.1 + 72)), (1, .int v1), (2, .int v2), (3, .int v3)] (by decide) rfl dX5_bring_28 ?_
      refine ya_aload_n 1 rfl dX5_bring_30 ?_
      refine ya_getR fo_X5_21 (hG.o0 72 rfl) (hG.lt0 72 (by decide)) (hG.l0 74 rfl) dX5_bring_31 ?_
      refine ya_iload 0 rfl dX5_bring_34 ?_
      refine ya_aload_n 1 rfl dX5_bring_36 ?_
      refine ya_getR fo_X5_15 (hG.o0 72 rfl) (hG.lt0 72 (by decide)) (hG.l0 72 rfl) dX5_bring_37 ?_
      refine ya_iload 0 rfl dX5_bring_40 ?_
      refine ya_iald (hG.s0 74 rfl) (hG.lt0 74 (by decide)) dX5_bring_42 h (fun x42 h => ?_)
      refine ya_iast (hG.s0 76 rfl) (hG.lt0 76 (by decide)) dX5_bring_43 h (fun d43 h => ?_)
      refine ya_aload_n 1 rfl dX5_bring_44 ?_
      refine ya_getR fo_X5_21 (hG.o0 72 rfl) (hG.lt0 72 (by decide)) (hG.l0 74 rfl) dX5_bring_45 ?_
      refine ya_iload 0 rfl dX5_bring_48 ?_
      refine ya_dup2 rfl rfl dX5_bring_50 ?_
      refine ya_iald (hG.s0 76 rfl) (hG.lt0 76 (by decide)) dX5_bring_51 h (fun x51 h => ?_)
      refine ya_aload_n 1 rfl dX5_bring_52 ?_
      obtain ⟨x53, d53, e53, h⟩ := ya_ob2 h
      refine ya_callVi (S := [.int x51, .int x27, .ref (X.2.1 + 76)]) (c_X5_missing hG e53) m_X5_missing ⟨rfl, rfl⟩ ml_X5_84 rfl ⟨Nat.le_of_ble_eq_true rfl, Nat.le_of_ble_eq_true rfl⟩ (Nat.le_of_ble_eq_true rfl) (hG.lt0 72 (by decide)) (hG.o0 72 rfl) (by decide) rfl rfl ⟨Nat.le_refl _, Nat.le_refl _⟩ dX5_bring_53 rfl ?_
      refine ya_isub dX5_bring_56 ?_
      refine ya_iast (hG.s0 76 rfl) (hG.lt0 76 (by decide)) dX5_bring_57 h (fun d57 h => ?_)
      refine ya_iload_n 3 rfl dX5_bring_58 ?_
      refine ya_aload_n 1 rfl dX5_bring_59 ?_
      refine ya_getR fo_X5_21 (hG.o0 72 rfl) (hG.lt0 72 (by decide)) (hG.l0 74 rfl) dX5_bring_60 ?_
      refine ya_iload 0 rfl dX5_bring_63 ?_
      refine ya_iald (hG.s0 76 rfl) (hG.lt0 76 (by decide)) dX5_bring_65 h (fun x65 h => ?_)
      refine ya_aload_n 1 rfl dX5_bring_66 ?_
      refine ya_getR fo_X5_9 (hG.o0 72 rfl) (hG.lt0 72 (by decide)) (hG.l0 71 rfl) dX5_bring_67 ?_
      refine ya_iload 0 rfl dX5_bring_70 ?_
      refine ya_iald (hG.s0 73 rfl) (hG.lt0 73 (by decide)) dX5_bring_72 h (fun x72 h => ?_)
      refine ya_imul dX5_bring_73 ?_
      refine ya_iadd dX5_bring_74 ?_
      refine ya_istore_n [(2, .int (v2 + (x65 * x72))), (4, .int x27), (0, .ref (X.2.1 + 72)), (1, .int v1), (3, .int v3)] (by decide) rfl dX5_bring_75 ?_
      refine ya_iinc (v3 + 1) rfl 4 rfl [(3, .int (v3 + 1)), (2, .int (v2 + (x65 * x72))), (4, .int x27), (0, .ref (X.2.1 + 72)), (1, .int v1)] (by decide) rfl dX5_bring_76 ?_
      refine ya_goto 17 (by decide) dX5_bring_79 ?_
      refine ya_sub [(0, .ref (X.2.1 + 72)), (1, .int v1), (2, .int (v2 + (x65 * x72))), (3, .int (v3 + 1))] [3, 4, 1, 0] rfl ?_
      exact ih _ _ _ h
set_option maxRecDepth 20000 in
theorem c_X5_bring {X : ya_X} {G : ya_G} {d : ya_D} {rr : (Int32 × ya_D)} (hG : ya_Bk ya_sh ya_ln G 0) (h : f_X5_bring d = some rr) : ya_Ct X yX5_bring Y_X5_bring [.ref (X.2.1 + 72)] G d (some (.int rr.1), G, rr.2) := by
  refine ya_ct (by decide +kernel) rfl rfl (Nat.le_of_ble_eq_true rfl) ?_
  unfold f_X5_bring at h
  show ya_E X Y_X5_bring (ya_M X (some (.int rr.1), G, rr.2) 0 0) 0 [(0, .ref (X.2.1 + 72))] [] G d 0 0
  refine ya_aload_n 0 rfl dX5_bring_0 ?_
  refine ya_getR fo_X5_21 (hG.o0 72 rfl) (hG.lt0 72 (by decide)) (hG.l0 74 rfl) dX5_bring_1 ?_
  refine ya_iconst 0 (by decide) dX5_bring_4 ?_
  refine ya_fillI (hG.s0 76 rfl) (by decide) (hG.lt0 76 (by decide)) ml_X5_74 (by decide) (by decide) (Nat.le_of_ble_eq_true rfl) dX5_bring_5 h ⟨Nat.le_refl _, Nat.le_refl _⟩ (fun d5 h => ?_)
  refine ya_aload_n 0 rfl dX5_bring_8 ?_
  obtain ⟨x9, d9, e9, h⟩ := ya_ob2 h
  refine ya_callVi (S := []) (c_X5_orderDays hG e9) m_X5_orderDays ⟨rfl, rfl⟩ ml_X5_80 rfl ⟨Nat.le_of_ble_eq_true rfl, Nat.le_of_ble_eq_true rfl⟩ (Nat.le_of_ble_eq_true rfl) (hG.lt0 72 (by decide)) (hG.o0 72 rfl) (by decide) rfl rfl ⟨Nat.le_refl _, Nat.le_refl _⟩ dX5_bring_9 rfl ?_
  refine ya_istore_n [(1, .int x9), (0, .ref (X.2.1 + 72))] (by decide) rfl dX5_bring_12 ?_
  refine ya_iconst 0 (by decide) dX5_bring_13 ?_
  refine ya_istore_n [(2, .int 0), (1, .int x9), (0, .ref (X.2.1 + 72))] (by decide) rfl dX5_bring_14 ?_
  refine ya_iconst 0 (by decide) dX5_bring_15 ?_
  refine ya_istore_n [(3, .int 0), (2, .int 0), (1, .int x9), (0, .ref (X.2.1 + 72))] (by decide) rfl dX5_bring_16 ?_
  refine ya_sub [(0, .ref (X.2.1 + 72)), (1, .int x9), (2, .int 0), (3, .int 0)] [3, 2, 1, 0] rfl ?_
  refine w_X5_bring_L17 hG  ya_F _ _ _ h
set_option maxRecDepth 20000 in
theorem c_X5_bringWithout {X : ya_X} {G : ya_G} {v1 : Int32} {d : ya_D} {rr : (Int32 × ya_D)} (hG : ya_Bk ya_sh ya_ln G 0) (h : f_X5_bringWithout v1 d = some rr) : ya_Ct X yX5_bringWithout Y_X5_bringWithout [.ref (X.2.1 + 72), .int v1] G d (some (.int rr.1), G, rr.2) := by
  refine ya_ct (by decide +kernel) rfl rfl (Nat.le_of_ble_eq_true rfl) ?_
  unfold f_X5_bringWithout at h
  show ya_E X Y_X5_bringWithout (ya_M X (some (.int rr.1), G, rr.2) 0 0) 0 [(0, .ref (X.2.1 + 72)), (1, .int v1)] [] G d 0 0
  refine ya_aload_n 0 rfl dX5_bringWithout_0 ?_
  refine ya_getR fo_X5_15 (hG.o0 72 rfl) (hG.lt0 72 (by decide)) (hG.l0 72 rfl) dX5_bringWithout_1 ?_
  refine ya_iload_n 1 rfl dX5_bringWithout_4 ?_
  refine ya_iald (hG.s0 74 rfl) (hG.lt0 74 (by decide)) dX5_bringWithout_5 h (fun x5 h => ?_)
  refine ya_istore_n [(2, .int x5), (0, .ref (X.2.1 + 72)), (1, .int v1)] (by decide) rfl dX5_bringWithout_6 ?_
  refine ya_aload_n 1 rfl dX5_bringWithout_7 ?_
  refine ya_getR fo_X5_15 (hG.o0 72 rfl) (hG.lt0 72 (by decide)) (hG.l0 72 rfl) dX5_bringWithout_8 ?_
  refine ya_iload_n 2 rfl dX5_bringWithout_11 ?_
  refine ya_iconst 0 (by decide) dX5_bringWithout_12 ?_
  refine ya_iast (hG.s0 74 rfl) (hG.lt0 74 (by decide)) dX5_bringWithout_13 h (fun d13 h => ?_)
  refine ya_aload_n 1 rfl dX5_bringWithout_14 ?_
  obtain ⟨x15, d15, e15, h⟩ := ya_ob2 h
  refine ya_callVi (S := []) (c_X5_bring hG e15) m_X5_bring ⟨rfl, rfl⟩ ml_X5_87 rfl ⟨Nat.le_of_ble_eq_true rfl, Nat.le_of_ble_eq_true rfl⟩ (Nat.le_of_ble_eq_true rfl) (hG.lt0 72 (by decide)) (hG.o0 72 rfl) (by decide) rfl rfl ⟨Nat.le_refl _, Nat.le_refl _⟩ dX5_bringWithout_15 rfl ?_
  refine ya_istore_n [(3, .int x15), (2, .int x5), (0, .ref (X.2.1 + 72)), (1, .int v1)] (by decide) rfl dX5_bringWithout_18 ?_
  refine ya_aload_n 2 rfl dX5_bringWithout_19 ?_
  refine ya_getR fo_X5_15 (hG.o0 72 rfl) (hG.lt0 72 (by decide)) (hG.l0 72 rfl) dX5_bringWithout_20 ?_
  refine ya_iload_n 3 rfl dX5_bringWithout_23 ?_
  refine ya_iload_n 1 rfl dX5_bringWithout_24 ?_
  refine ya_iast (hG.s0 74 rfl) (hG.lt0 74 (by decide)) dX5_bringWithout_25 h (fun d25 h => ?_)
  refine ya_iload_n 0 rfl dX5_bringWithout_26 ?_
  cases h
  exact ya_iret rfl rfl rfl rfl rfl (Nat.le_refl _) dX5_bringWithout_27
set_option maxRecDepth 20000 in
theorem c_X5_bringAt {X : ya_X} {G : ya_G} {v1 : Int32} {v2 : Int32} {v3 : Int32} {d : ya_D} {rr : (Int32 × ya_D)} (hG : ya_Bk ya_sh ya_ln G 0) (h : f_X5_bringAt v1 v2 v3 d = some rr) : ya_Ct X yX5_bringAt Y_X5_bringAt [.ref (X.2.1 + 72), .int v1, .int v2, .int v3] G d (some (.int rr.1), G, rr.2) := by
  refine ya_ct (by decide +kernel) rfl rfl (Nat.le_of_ble_eq_true rfl) ?_
  unfold f_X5_bringAt at h
  show ya_E X Y_X5_bringAt (ya_M X (some (.int rr.1), G, rr.2) 0 0) 0 [(0, .ref (X.2.1 + 72)), (1, .int v1), (2, .int v2), (3, .int v3)] [] G d 0 0
  refine ya_aload_n 0 rfl dX5_bringAt_0 ?_
  refine ya_getR fo_X5_9 (hG.o0 72 rfl) (hG.lt0 72 (by decide)) (hG.l0 71 rfl) dX5_bringAt_1 ?_
  refine ya_iload_n 1 rfl dX5_bringAt_4 ?_
  refine ya_iald (hG.s0 73 rfl) (hG.lt0 73 (by decide)) dX5_bringAt_5 h (fun x5 h => ?_)
  refine ya_istore [(4, .int x5), (0, .ref (X.2.1 + 72)), (1, .int v1), (2, .int v2), (3, .int v3)] (by decide) rfl dX5_bringAt_6 ?_
  refine ya_aload_n 1 rfl dX5_bringAt_8 ?_
  refine ya_getR fo_X5_15 (hG.o0 72 rfl) (hG.lt0 72 (by decide)) (hG.l0 72 rfl) dX5_bringAt_9 ?_
  refine ya_iload_n 2 rfl dX5_bringAt_12 ?_
  refine ya_iald (hG.s0 74 rfl) (hG.lt0 74 (by decide)) dX5_bringAt_13 h (fun x13 h => ?_)
  refine ya_istore [(5, .int x13), (4, .int x5), (0, .ref (X.2.1 + 72)), (1, .int v1), (2, .int v2), (3, .int v3)] (by decide) rfl dX5_bringAt_14 ?_
  refine ya_aload_n 2 rfl dX5_bringAt_16 ?_
  refine ya_getR fo_X5_9 (hG.o0 72 rfl) (hG.lt0 72 (by decide)) (hG.l0 71 rfl) dX5_bringAt_17 ?_
  refine ya_iload_n 3 rfl dX5_bringAt_20 ?_
  refine ya_iload_n 4 rfl dX5_bringAt_21 ?_
  refine ya_iast (hG.s0 73 rfl) (hG.lt0 73 (by decide)) dX5_bringAt_22 h (fun d22 h => ?_)
  refine ya_aload_n 2 rfl dX5_bringAt_23 ?_
  refine ya_getR fo_X5_15 (hG.o0 72 rfl) (hG.lt0 72 (by decide)) (hG.l0 72 rfl) dX5_bringAt_24 ?_
  refine ya_iload_n 3 rfl dX5_bringAt_27 ?_
  refine ya_iload_n 5 rfl dX5_bringAt_28 ?_
  refine ya_iast (hG.s0 74 rfl) (hG.lt0 74 (by decide)) dX5_bringAt_29 h (fun d29 h => ?_)
  refine ya_aload_n 2 rfl dX5_bringAt_30 ?_
  obtain ⟨x31, d31, e31, h⟩ := ya_ob2 h
  refine ya_callVi (S := []) (c_X5_bring hG e31) m_X5_bring ⟨rfl, rfl⟩ ml_X5_87 rfl ⟨Nat.le_of_ble_eq_true rfl, Nat.le_of_ble_eq_true rfl⟩ (Nat.le_of_ble_eq_true rfl) (hG.lt0 72 (by decide)) (hG.o0 72 rfl) (by decide) rfl rfl ⟨Nat.le_refl _, Nat.le_refl _⟩ dX5_bringAt_31 rfl ?_
  refine ya_istore [(6, .int x31), (5, .int x13), (4, .int x5), (0, .ref (X.2.1 + 72)), (1, .int v1), (2, .int v2), (3, .int v3)] (by decide) rfl dX5_bringAt_34 ?_
  refine ya_aload_n 3 rfl dX5_bringAt_36 ?_
  refine ya_getR fo_X5_9 (hG.o0 72 rfl) (hG.lt0 72 (by decide)) (hG.l0 71 rfl) dX5_bringAt_37 ?_
  refine ya_iload_n 4 rfl dX5_bringAt_40 ?_
  refine ya_iload 2 rfl dX5_bringAt_41 ?_
  refine ya_iast (hG.s0 73 rfl) (hG.lt0 73 (by decide)) dX5_bringAt_43 h (fun d43 h => ?_)
  refine ya_aload_n 3 rfl dX5_bringAt_44 ?_
  refine ya_getR fo_X5_15 (hG.o0 72 rfl) (hG.lt0 72 (by decide)) (hG.l0 72 rfl) dX5_bringAt_45 ?_
  refine ya_iload_n 4 rfl dX5_bringAt_48 ?_
  refine ya_iload 1 rfl dX5_bringAt_49 ?_
  refine ya_iast (hG.s0 74 rfl) (hG.lt0 74 (by decide)) dX5_bringAt_51 h (fun d51 h => ?_)
  refine ya_iload 0 rfl dX5_bringAt_52 ?_
  cases h
  exact ya_iret rfl rfl rfl rfl rfl (Nat.le_refl _) dX5_bringAt_54
set_option maxRecDepth 20000 in
theorem w_X7_addFour_L16 {X : ya_X} {G : ya_G} {v1 : Int32} {rr : ya_D} (hG : ya_Bk ya_sh ya_ln G 0) : ∀ (n : Nat) (v2 : Int32) (d : ya_D), f_X7_addFour_L16 v1 n v2 d = some rr → ya_E X Y_X7_addFour (ya_M X (none, G, rr) 0 0) 16 [(0, .ref (X.2.1 + 1)), (1, .int v1), (2, .int v2)] [] G d 0 0 := by
  intro n
  induction n with
  | zero => intro v2 d h; cases h
  | succ n ih =>
    intro v2 d h
    rw [f_X7_addFour_L16] at h
    refine ya_iload_n 2 rfl dX7_addFour_16 ?_
    refine ya_iflt 53 (by decide) dX7_addFour_17 (fun c => ?_) (fun c => ?_)
    · replace h := ya_itet h c
      cases h
      exact ya_vret rfl rfl rfl rfl rfl (Nat.le_refl _) dX7_addFour_53
    · replace h := ya_itef h c
      refine ya_aload_n 0 rfl dX7_addFour_20 ?_
      refine ya_getR fo_X7_9 (hG.o0 1 rfl) (hG.lt0 1 (by decide)) (hG.l0 0 rfl) dX7_addFour_21 ?_
      refine ya_aload_n 0 rfl dX7_addFour_24 ?_
      refine ya_getI fo_X7_15 (hG.o0 1 rfl) (hG.lt0 1 (by decide)) dX7_addFour_25 ?_
      refine ya_iload_n 1 rfl dX7_addFour_28 ?_
      refine ya_iload_n 2 rfl dX7_addFour_29 ?_
      refine ya_iushr dX7_addFour_30 ?_
      refine ya_sipush 255 (by decide) dX7_addFour_31 ?_
      refine ya_iand dX7_addFour_34 ?_
      refine ya_i2c dX7_addFour_35 ?_
      refine ya_cast (hG.s0 2 rfl) (hG.lt0 2 (by decide)) dX7_addFour_36 h (fun d36 h => ?_)
      refine ya_aload_n 0 rfl dX7_addFour_37 ?_
      refine ya_dup rfl dX7_addFour_38 ?_
      refine ya_getI fo_X7_15 (hG.o0 1 rfl) (hG.lt0 1 (by decide)) dX7_addFour_39 ?_
      refine ya_iconst 1 (by decide) dX7_addFour_42 ?_
      refine ya_iadd dX7_addFour_43 ?_
      refine ya_putIb fo_X7_15 (hG.o0 1 rfl) (hG.lt0 1 (by decide)) .int pf_X7_1 rfl rfl dX7_addFour_44 h (fun d44 h => ?_)
      refine ya_iinc (v2 + (-8)) (congrArg (fun z => v2 + z) (by decide : Int32.ofInt (-8) = (-8))) 2 rfl [(2, .int (v2 + (-8))), (0, .ref (X.2.1 + 1)), (1, .int v1)] (by decide) rfl dX7_addFour_47 ?_
      refine ya_goto 16 (by decide) dX7_addFour_50 ?_
      refine ya_sub [(0, .ref (X.2.1 + 1)), (1, .int v1), (2, .int (v2 + (-8)))] [1, 2, 0] rfl ?_
      exact ih _ _ h
set_option maxRecDepth 20000 in
theorem c_X7_addFour {X : ya_X} {G : ya_G} {v1 : Int32} {d : ya_D} {rr : ya_D} (hG : ya_Bk ya_sh ya_ln G 0) (h : f_X7_addFour v1 d = some rr) : ya_Ct X yX7_addFour Y_X7_addFour [.ref (X.2.1 + 1), .int v1] G d (none, G, rr) := by
  refine ya_ct (by decide +kernel) rfl rfl (Nat.le_of_ble_eq_true rfl) ?_
  unfold f_X7_addFour at h
  show ya_E X Y_X7_addFour (ya_M X (none, G, rr) 0 0) 0 [(0, .ref (X.2.1 + 1)), (1, .int v1)] [] G d 0 0
  refine ya_aload_n 0 rfl dX7_addFour_0 ?_
  refine ya_getI fo_X7_15 (hG.o0 1 rfl) (hG.lt0 1 (by decide)) dX7_addFour_1 ?_
  refine ya_iconst 4 (by decide) dX7_addFour_4 ?_
  refine ya_iadd dX7_addFour_5 ?_
  refine ya_sipush 2000 (by decide) dX7_addFour_6 ?_
  refine ya_icmp_le 13 (by decide) dX7_addFour_9 (fun c => ?_) (fun c => ?_)
  · replace h := ya_itet h c
    refine ya_bipush 24 (by decide) dX7_addFour_13 ?_
    refine ya_istore_n [(2, .int 24), (0, .ref (X.2.1 + 1)), (1, .int v1)] (by decide) rfl dX7_addFour_15 ?_
    refine ya_sub [(0, .ref (X.2.1 + 1)), (1, .int v1), (2, .int 24)] [1, 2, 0] rfl ?_
    refine w_X7_addFour_L16 hG  ya_F _ _ h
  · replace h := ya_itef h c
    cases h
    exact ya_vret rfl rfl rfl rfl rfl (Nat.le_refl _) dX7_addFour_12
set_option maxRecDepth 20000 in
theorem w_X8_turnYear_L2 {X : ya_X} {G : ya_G} {a0 : Nat} {rr : ya_D} (hG : ya_Bk ya_sh ya_ln G 0) (h_a0 : ya_Bk shX8 lnX8 G a0) : ∀ (n : Nat) (v1 : Int32) (d : ya_D), f_X8_turnYear_L2 a0 n v1 d = some rr → ya_E X Y_X8_turnYear (ya_M X (none, G, rr) 0 0) 2 [(0, .ref (X.2.1 + a0)), (1, .int v1)] [] G d 0 0 := by
  intro n
  induction n with
  | zero => intro v1 d h; cases h
  | succ n ih =>
    intro v1 d h
    rw [f_X8_turnYear_L2] at h
    refine ya_iload_n 1 rfl dX8_turnYear_2 ?_
    refine ya_aload_n 0 rfl dX8_turnYear_3 ?_
    refine ya_getI fo_X8_24 (h_a0.o 0 rfl) (h_a0.lt 0 (by decide)) dX8_turnYear_4 ?_
    refine ya_bipush 20 (by decide) dX8_turnYear_7 ?_
    refine ya_imul dX8_turnYear_9 ?_
    refine ya_icmp_ge 60 (by decide) dX8_turnYear_10 (fun c => ?_) (fun c => ?_)
    · replace h := ya_itet h c
      cases h
      exact ya_vret rfl rfl rfl rfl rfl (Nat.le_refl _) dX8_turnYear_60
    · replace h := ya_itef h c
      refine ya_aload_n 0 rfl dX8_turnYear_13 ?_
      refine ya_getR fo_X8_18 (h_a0.o 0 rfl) (h_a0.lt 0 (by decide)) (h_a0.l 2 rfl) dX8_turnYear_14 ?_
      refine ya_iload_n 1 rfl dX8_turnYear_17 ?_
      refine ya_aload_n 0 rfl dX8_turnYear_18 ?_
      refine ya_getR fo_X8_15 (h_a0.o 0 rfl) (h_a0.lt 0 (by decide)) (h_a0.l 1 rfl) dX8_turnYear_19 ?_
      refine ya_iload_n 1 rfl dX8_turnYear_22 ?_
      refine ya_iald (h_a0.s 2 rfl) (h_a0.lt 2 (by decide)) dX8_turnYear_23 h (fun x23 h => ?_)
      refine ya_iast (h_a0.s 3 rfl) (h_a0.lt 3 (by decide)) dX8_turnYear_24 h (fun d24 h => ?_)
      refine ya_aload_n 0 rfl dX8_turnYear_25 ?_
      refine ya_getR fo_X8_21 (h_a0.o 0 rfl) (h_a0.lt 0 (by decide)) (h_a0.l 3 rfl) dX8_turnYear_26 ?_
      refine ya_iload_n 1 rfl dX8_turnYear_29 ?_
      refine ya_iald (h_a0.s 4 rfl) (h_a0.lt 4 (by decide)) dX8_turnYear_30 h (fun x30 h => ?_)
      refine ya_iconst (-1) (by decide) dX8_turnYear_31 ?_
      refine ya_j1_s h (fun d_47 => ya_E X Y_X8_turnYear (ya_M X (none, G, rr) 0 0) 47 [(0, .ref (X.2.1 + a0)), (1, .int v1)] [] G d_47 0 0) (fun d_47 h => ?_) (fun k47 hk47 h => ?_)
      · refine ya_aload_n 0 rfl dX8_turnYear_47 ?_
        refine ya_getR fo_X8_21 (h_a0.o 0 rfl) (h_a0.lt 0 (by decide)) (h_a0.l 3 rfl) dX8_turnYear_48 ?_
        refine ya_iload_n 1 rfl dX8_turnYear_51 ?_
        refine ya_iconst (-1) (by decide) dX8_turnYear_52 ?_
        refine ya_iast (h_a0.s 4 rfl) (h_a0.lt 4 (by decide)) dX8_turnYear_53 h (fun d53 h => ?_)
        refine ya_iinc (v1 + 1) rfl 1 rfl [(1, .int (v1 + 1)), (0, .ref (X.2.1 + a0))] (by decide) rfl dX8_turnYear_54 ?_
        refine ya_goto 2 (by decide) dX8_turnYear_57 ?_
        refine ya_sub [(0, .ref (X.2.1 + a0)), (1, .int (v1 + 1))] [1, 0] rfl ?_
        exact ih _ _ h
      · refine ya_icmp_eq 47 (by decide) dX8_turnYear_32 (fun c => ?_) (fun c => ?_)
        · replace h := ya_itet h c
          exact hk47 _ h
        · replace h := ya_itef h c
          refine ya_aload_n 0 rfl dX8_turnYear_35 ?_
          refine ya_getR fo_X8_15 (h_a0.o 0 rfl) (h_a0.lt 0 (by decide)) (h_a0.l 1 rfl) dX8_turnYear_36 ?_
          refine ya_iload_n 1 rfl dX8_turnYear_39 ?_
          refine ya_aload_n 0 rfl dX8_turnYear_40 ?_
          refine ya_getR fo_X8_21 (h_a0.o 0 rfl) (h_a0.lt 0 (by decide)) (h_a0.l 3 rfl) dX8_turnYear_41 ?_
          refine ya_iload_n 1 rfl dX8_turnYear_44 ?_
          refine ya_iald (h_a0.s 4 rfl) (h_a0.lt 4 (by decide)) dX8_turnYear_45 h (fun x45 h => ?_)
          refine ya_iast (h_a0.s 2 rfl) (h_a0.lt 2 (by decide)) dX8_turnYear_46 h (fun d46 h => ?_)
          exact hk47 _ h
set_option maxRecDepth 20000 in
theorem c_X8_turnYear {X : ya_X} {G : ya_G} {a0 : Nat} {d : ya_D} {rr : ya_D} (hG : ya_Bk ya_sh ya_ln G 0) (h_a0 : ya_Bk shX8 lnX8 G a0) (h : f_X8_turnYear a0 d = some rr) : ya_Ct X yX8_turnYear Y_X8_turnYear [.ref (X.2.1 + a0)] G d (none, G, rr) := by
  refine ya_ct (by decide +kernel) rfl rfl (Nat.le_of_ble_eq_true rfl) ?_
  unfold f_X8_turnYear at h
  show ya_E X Y_X8_turnYear (ya_M X (none, G, rr) 0 0) 0 [(0, .ref (X.2.1 + a0))] [] G d 0 0
  refine ya_iconst 0 (by decide) dX8_turnYear_0 ?_
  refine ya_istore_n [(1, .int 0), (0, .ref (X.2.1 + a0))] (by decide) rfl dX8_turnYear_1 ?_
  refine ya_sub [(0, .ref (X.2.1 + a0)), (1, .int 0)] [1, 0] rfl ?_
  refine w_X8_turnYear_L2 hG h_a0  ya_F _ _ h
set_option maxRecDepth 20000 in
theorem c_X10_forget {X : ya_X} {G : ya_G} {a0 : Nat} {d : ya_D} {rr : ya_D} (hG : ya_Bk ya_sh ya_ln G 0) (h_a0 : ya_Bk shX10 lnX10 G a0) (h : f_X10_forget a0 d = some rr) : ya_Ct X yX10_forget Y_X10_forget [.ref (X.2.1 + a0)] G d (none, G, rr) := by
  refine ya_ct (by decide +kernel) rfl rfl (Nat.le_of_ble_eq_true rfl) ?_
  unfold f_X10_forget at h
  show ya_E X Y_X10_forget (ya_M X (none, G, rr) 0 0) 0 [(0, .ref (X.2.1 + a0))] [] G d 0 0
  refine ya_aload_n 0 rfl dX10_forget_0 ?_
  refine ya_getR fo_X10_21 (h_a0.o 0 rfl) (h_a0.lt 0 (by decide)) (h_a0.l 3 rfl) dX10_forget_1 ?_
  refine ya_iconst 0 (by decide) dX10_forget_4 ?_
  refine ya_fillI (h_a0.s 4 rfl) (by decide) (h_a0.lt 4 (by decide)) ml_X10_94 (by decide) (by decide) (Nat.le_of_ble_eq_true rfl) dX10_forget_5 h ⟨Nat.le_refl _, Nat.le_refl _⟩ (fun d5 h => ?_)
  refine ya_aload_n 0 rfl dX10_forget_8 ?_
  refine ya_getR fo_X10_24 (h_a0.o 0 rfl) (h_a0.lt 0 (by decide)) (h_a0.l 4 rfl) dX10_forget_9 ?_
  refine ya_iconst 0 (by decide) dX10_forget_12 ?_
  refine ya_fillI (h_a0.s 5 rfl) (by decide) (h_a0.lt 5 (by decide)) ml_X10_94 (by decide) (by decide) (Nat.le_of_ble_eq_true rfl) dX10_forget_13 h ⟨Nat.le_refl _, Nat.le_refl _⟩ (fun d13 h => ?_)
  refine ya_aload_n 0 rfl dX10_forget_16 ?_
  refine ya_getR fo_X10_33 (h_a0.o 0 rfl) (h_a0.lt 0 (by decide)) (h_a0.l 7 rfl) dX10_forget_17 ?_
  refine ya_iconst 0 (by decide) dX10_forget_20 ?_
  refine ya_fillI (h_a0.s 8 rfl) (by decide) (h_a0.lt 8 (by decide)) ml_X10_94 (by decide) (by decide) (Nat.le_of_ble_eq_true rfl) dX10_forget_21 h ⟨Nat.le_refl _, Nat.le_refl _⟩ (fun d21 h => ?_)
  refine ya_aload_n 0 rfl dX10_forget_24 ?_
  refine ya_getR fo_X10_36 (h_a0.o 0 rfl) (h_a0.lt 0 (by decide)) (h_a0.l 8 rfl) dX10_forget_25 ?_
  refine ya_iconst 0 (by decide) dX10_forget_28 ?_
  refine ya_fillI (h_a0.s 9 rfl) (by decide) (h_a0.lt 9 (by decide)) ml_X10_94 (by decide) (by decide) (Nat.le_of_ble_eq_true rfl) dX10_forget_29 h ⟨Nat.le_refl _, Nat.le_refl _⟩ (fun d29 h => ?_)
  refine ya_aload_n 0 rfl dX10_forget_32 ?_
  refine ya_getR fo_X10_39 (h_a0.o 0 rfl) (h_a0.lt 0 (by decide)) (h_a0.l 9 rfl) dX10_forget_33 ?_
  refine ya_iconst 0 (by decide) dX10_forget_36 ?_
  refine ya_fillI (h_a0.s 10 rfl) (by decide) (h_a0.lt 10 (by decide)) ml_X10_94 (by decide) (by decide) (Nat.le_of_ble_eq_true rfl) dX10_forget_37 h ⟨Nat.le_refl _, Nat.le_refl _⟩ (fun d37 h => ?_)
  refine ya_aload_n 0 rfl dX10_forget_40 ?_
  refine ya_getR fo_X10_42 (h_a0.o 0 rfl) (h_a0.lt 0 (by decide)) (h_a0.l 10 rfl) dX10_forget_41 ?_
  refine ya_iconst 0 (by decide) dX10_forget_44 ?_
  refine ya_fillI (h_a0.s 11 rfl) (by decide) (h_a0.lt 11 (by decide)) ml_X10_94 (by decide) (by decide) (Nat.le_of_ble_eq_true rfl) dX10_forget_45 h ⟨Nat.le_refl _, Nat.le_refl _⟩ (fun d45 h => ?_)
  refine ya_aload_n 0 rfl dX10_forget_48 ?_
  refine ya_getR fo_X10_45 (h_a0.o 0 rfl) (h_a0.lt 0 (by decide)) (h_a0.l 11 rfl) dX10_forget_49 ?_
  refine ya_iconst 0 (by decide) dX10_forget_52 ?_
  refine ya_fillI (h_a0.s 12 rfl) (by decide) (h_a0.lt 12 (by decide)) ml_X10_94 (by decide) (by decide) (Nat.le_of_ble_eq_true rfl) dX10_forget_53 h ⟨Nat.le_refl _, Nat.le_refl _⟩ (fun d53 h => ?_)
  refine ya_aload_n 0 rfl dX10_forget_56 ?_
  refine ya_getR fo_X10_48 (h_a0.o 0 rfl) (h_a0.lt 0 (by decide)) (h_a0.l 12 rfl) dX10_forget_57 ?_
  refine ya_iconst 0 (by decide) dX10_forget_60 ?_
  refine ya_fillI (h_a0.s 13 rfl) (by decide) (h_a0.lt 13 (by decide)) ml_X10_94 (by decide) (by decide) (Nat.le_of_ble_eq_true rfl) dX10_forget_61 h ⟨Nat.le_refl _, Nat.le_refl _⟩ (fun d61 h => ?_)
  refine ya_aload_n 0 rfl dX10_forget_64 ?_
  refine ya_iconst 0 (by decide) dX10_forget_65 ?_
  refine ya_putIb fo_X10_100 (h_a0.o 0 rfl) (h_a0.lt 0 (by decide)) .int pf_X10_15 rfl rfl dX10_forget_66 h (fun d66 h => ?_)
  cases h
  exact ya_vret rfl rfl rfl rfl rfl (Nat.le_refl _) dX10_forget_69
set_option maxRecDepth 20000 in
theorem c_X10_begin {X : ya_X} {G : ya_G} {a0 : Nat} {a1 : Nat} {v2 : Int32} {v3 : Int32} {d : ya_D} {rr : ya_D} (hG : ya_Bk ya_sh ya_ln G 0) (h_a0 : ya_Bk shX10 lnX10 G a0) (h_a1 : ya_Bk shX2 lnX2 G a1) (h : f_X10_begin a0 a1 v2 v3 d = some rr) : ya_Ct X yX10_begin Y_X10_begin [.ref (X.2.1 + a0), .ref (X.2.1 + a1), .int v2, .int v3] G d (none, G, rr) := by
  refine ya_ct (by decide +kernel) rfl rfl (Nat.le_of_ble_eq_true rfl) ?_
  unfold f_X10_begin at h
  show ya_E X Y_X10_begin (ya_M X (none, G, rr) 0 0) 0 [(0, .ref (X.2.1 + a0)), (1, .ref (X.2.1 + a1)), (2, .int v2), (3, .int v3)] [] G d 0 0
  refine ya_aload_n 1 rfl dX10_begin_0 ?_
  refine ya_getR fo_X10_67 (h_a1.o 0 rfl) (h_a1.lt 0 (by decide)) (h_a1.l 9 rfl) dX10_begin_1 ?_
  refine ya_getR fo_X10_106 (h_a1.o 6 rfl) (h_a1.lt 6 (by decide)) (h_a1.l 5 rfl) dX10_begin_4 ?_
  refine ya_iload_n 2 rfl dX10_begin_7 ?_
  refine ya_iald (h_a1.s 7 rfl) (h_a1.lt 7 (by decide)) dX10_begin_8 h (fun x8 h => ?_)
  refine ya_istore [(4, .int x8), (0, .ref (X.2.1 + a0)), (1, .ref (X.2.1 + a1)), (2, .int v2), (3, .int v3)] (by decide) rfl dX10_begin_9 ?_
  refine ya_iload_n 4 rfl dX10_begin_11 ?_
  refine ya_aload_n 2 rfl dX10_begin_12 ?_
  refine ya_getR fo_X10_80 (h_a1.o 0 rfl) (h_a1.lt 0 (by decide)) (h_a1.l 4 rfl) dX10_begin_13 ?_
  refine ya_getR fo_X10_109 (h_a1.o 1 rfl) (h_a1.lt 1 (by decide)) (h_a1.l 0 rfl) dX10_begin_16 ?_
  refine ya_iload 0 rfl dX10_begin_19 ?_
  refine ya_iald (h_a1.s 2 rfl) (h_a1.lt 2 (by decide)) dX10_begin_21 h (fun x21 h => ?_)
  refine ya_isub dX10_begin_22 ?_
  refine ya_iconst 1 (by decide) dX10_begin_23 ?_
  refine ya_isub dX10_begin_24 ?_
  refine ya_istore [(5, .int ((v3 - x21) - 1)), (4, .int x8), (0, .ref (X.2.1 + a0)), (1, .ref (X.2.1 + a1)), (2, .int v2), (3, .int v3)] (by decide) rfl dX10_begin_25 ?_
  refine ya_iload 0 rfl dX10_begin_27 ?_
  refine ya_j1_s h (fun d_95 => ya_E X Y_X10_begin (ya_M X (none, G, rr) 0 0) 95 [(0, .ref (X.2.1 + a0)), (1, .ref (X.2.1 + a1)), (2, .int v2), (3, .int v3)] [] G d_95 0 0) (fun d_95 h => ?_) (fun k95 hk95 h => ?_)
  · refine ya_aload_n 1 rfl dX10_begin_95 ?_
    refine ya_getR fo_X10_67 (h_a1.o 0 rfl) (h_a1.lt 0 (by decide)) (h_a1.l 9 rfl) dX10_begin_96 ?_
    refine ya_iload_n 2 rfl dX10_begin_99 ?_
    refine ya_iload_n 3 rfl dX10_begin_100 ?_
    obtain ⟨x101, e101, h⟩ := ya_ob h
    refine ya_callVi (S := []) (c_X6_coming hG (bk_X2_6 h_a1) e101) m_X6_coming ⟨rfl, rfl⟩ ml_X10_112 rfl ⟨Nat.le_of_ble_eq_true rfl, Nat.le_of_ble_eq_true rfl⟩ (Nat.le_of_ble_eq_true rfl) (h_a1.lt 6 (by decide)) (h_a1.o 6 rfl) (by decide) rfl rfl ⟨Nat.le_refl _, Nat.le_refl _⟩ dX10_begin_101 rfl ?_
    refine ya_istore [(6, .int x101), (0, .ref (X.2.1 + a0)), (1, .ref (X.2.1 + a1)), (2, .int v2), (3, .int v3)] (by decide) rfl dX10_begin_104 ?_
    refine ya_aload_n 1 rfl dX10_begin_106 ?_
    refine ya_getR fo_X10_30 (h_a0.o 0 rfl) (h_a0.lt 0 (by decide)) (h_a0.l 6 rfl) dX10_begin_107 ?_
    refine ya_iload_n 3 rfl dX10_begin_110 ?_
    refine ya_iload_n 4 rfl dX10_begin_111 ?_
    obtain ⟨x112, e112, h⟩ := ya_ob h
    refine ya_callSNi (S := [.ref (X.2.1 + (a0 + 7))]) (c_X11_cell hG e112) m_X11_cell ⟨rfl, rfl⟩ 14 rfl rfl ⟨Nat.le_of_ble_eq_true rfl, Nat.le_of_ble_eq_true rfl⟩ (Nat.le_of_ble_eq_true rfl) ⟨Nat.le_refl _, Nat.le_refl _⟩ dX10_begin_112 rfl ?_
    refine ya_iload 0 rfl dX10_begin_115 ?_
    refine ya_iast (h_a0.s 7 rfl) (h_a0.lt 7 (by decide)) dX10_begin_117 h (fun d117 h => ?_)
    refine ya_aload_n 1 rfl dX10_begin_118 ?_
    refine ya_getR fo_X10_33 (h_a0.o 0 rfl) (h_a0.lt 0 (by decide)) (h_a0.l 7 rfl) dX10_begin_119 ?_
    refine ya_iload_n 3 rfl dX10_begin_122 ?_
    refine ya_dup2 rfl rfl dX10_begin_123 ?_
    refine ya_iald (h_a0.s 8 rfl) (h_a0.lt 8 (by decide)) dX10_begin_124 h (fun x124 h => ?_)
    refine ya_iload 0 rfl dX10_begin_125 ?_
    refine ya_iadd dX10_begin_127 ?_
    refine ya_iast (h_a0.s 8 rfl) (h_a0.lt 8 (by decide)) dX10_begin_128 h (fun d128 h => ?_)
    cases h
    exact ya_vret rfl rfl rfl rfl rfl (Nat.le_refl _) dX10_begin_129
  · refine ya_iflt 95 (by decide) dX10_begin_29 (fun c => ?_) (fun c => ?_)
    · replace h := ya_itet h c
      refine ya_sub [(0, .ref (X.2.1 + a0)), (1, .ref (X.2.1 + a1)), (2, .int v2), (3, .int v3)] [2, 3, 4, 5] rfl ?_
      exact hk95 _ h
    · replace h := ya_itef h c
      refine ya_aload_n 2 rfl dX10_begin_32 ?_
      refine ya_getR fo_X10_30 (h_a0.o 0 rfl) (h_a0.lt 0 (by decide)) (h_a0.l 6 rfl) dX10_begin_33 ?_
      refine ya_iload_n 4 rfl dX10_begin_36 ?_
      refine ya_iload 0 rfl dX10_begin_37 ?_
      obtain ⟨x39, e39, h⟩ := ya_ob h
      refine ya_callSNi (S := [.ref (X.2.1 + (a0 + 7))]) (c_X11_cell hG e39) m_X11_cell ⟨rfl, rfl⟩ 14 rfl rfl ⟨Nat.le_of_ble_eq_true rfl, Nat.le_of_ble_eq_true rfl⟩ (Nat.le_of_ble_eq_true rfl) ⟨Nat.le_refl _, Nat.le_refl _⟩ dX10_begin_39 rfl ?_
      refine ya_iald (h_a0.s 7 rfl) (h_a0.lt 7 (by decide)) dX10_begin_42 h (fun x42 h => ?_)
      refine ya_istore [(6, .int x42), (5, .int ((v3 - x21) - 1)), (4, .int x8), (0, .ref (X.2.1 + a0)), (1, .ref (X.2.1 + a1)), (2, .int v2), (3, .int v3)] (by decide) rfl dX10_begin_43 ?_
      refine ya_aload_n 3 rfl dX10_begin_45 ?_
      refine ya_getR fo_X10_30 (h_a0.o 0 rfl) (h_a0.lt 0 (by decide)) (h_a0.l 6 rfl) dX10_begin_46 ?_
      refine ya_iload_n 5 rfl dX10_begin_49 ?_
      refine ya_iload 1 rfl dX10_begin_50 ?_
      obtain ⟨x52, e52, h⟩ := ya_ob h
      refine ya_callSNi (S := [.ref (X.2.1 + (a0 + 7))]) (c_X11_cell hG e52) m_X11_cell ⟨rfl, rfl⟩ 14 rfl rfl ⟨Nat.le_of_ble_eq_true rfl, Nat.le_of_ble_eq_true rfl⟩ (Nat.le_of_ble_eq_true rfl) ⟨Nat.le_refl _, Nat.le_refl _⟩ dX10_begin_52 rfl ?_
      refine ya_iconst 0 (by decide) dX10_begin_55 ?_
      refine ya_iast (h_a0.s 7 rfl) (h_a0.lt 7 (by decide)) dX10_begin_56 h (fun d56 h => ?_)
      refine ya_aload_n 3 rfl dX10_begin_57 ?_
      refine ya_getR fo_X10_33 (h_a0.o 0 rfl) (h_a0.lt 0 (by decide)) (h_a0.l 7 rfl) dX10_begin_58 ?_
      refine ya_iload_n 5 rfl dX10_begin_61 ?_
      refine ya_dup2 rfl rfl dX10_begin_62 ?_
      refine ya_iald (h_a0.s 8 rfl) (h_a0.lt 8 (by decide)) dX10_begin_63 h (fun x63 h => ?_)
      refine ya_iload 0 rfl dX10_begin_64 ?_
      refine ya_isub dX10_begin_66 ?_
      refine ya_iast (h_a0.s 8 rfl) (h_a0.lt 8 (by decide)) dX10_begin_67 h (fun d67 h => ?_)
      refine ya_aload_n 3 rfl dX10_begin_68 ?_
      refine ya_getR fo_X10_42 (h_a0.o 0 rfl) (h_a0.lt 0 (by decide)) (h_a0.l 10 rfl) dX10_begin_69 ?_
      refine ya_iload_n 5 rfl dX10_begin_72 ?_
      refine ya_dup2 rfl rfl dX10_begin_73 ?_
      refine ya_iald (h_a0.s 11 rfl) (h_a0.lt 11 (by decide)) dX10_begin_74 h (fun x74 h => ?_)
      refine ya_iload 0 rfl dX10_begin_75 ?_
      refine ya_iadd dX10_begin_77 ?_
      refine ya_iast (h_a0.s 11 rfl) (h_a0.lt 11 (by decide)) dX10_begin_78 h (fun d78 h => ?_)
      refine ya_aload_n 3 rfl dX10_begin_79 ?_
      refine ya_getR fo_X10_21 (h_a0.o 0 rfl) (h_a0.lt 0 (by decide)) (h_a0.l 3 rfl) dX10_begin_80 ?_
      refine ya_iload 2 rfl dX10_begin_83 ?_
      refine ya_iload_n 6 rfl dX10_begin_85 ?_
      obtain ⟨x86, e86, h⟩ := ya_ob h
      refine ya_callSNi (S := [.ref (X.2.1 + (a0 + 4))]) (c_X11_cell hG e86) m_X11_cell ⟨rfl, rfl⟩ 14 rfl rfl ⟨Nat.le_of_ble_eq_true rfl, Nat.le_of_ble_eq_true rfl⟩ (Nat.le_of_ble_eq_true rfl) ⟨Nat.le_refl _, Nat.le_refl _⟩ dX10_begin_86 rfl ?_
      refine ya_dup2 rfl rfl dX10_begin_89 ?_
      refine ya_iald (h_a0.s 4 rfl) (h_a0.lt 4 (by decide)) dX10_begin_90 h (fun x90 h => ?_)
      refine ya_iload 0 rfl dX10_begin_91 ?_
      refine ya_iadd dX10_begin_93 ?_
      refine ya_iast (h_a0.s 4 rfl) (h_a0.lt 4 (by decide)) dX10_begin_94 h (fun d94 h => ?_)
      refine ya_sub [(0, .ref (X.2.1 + a0)), (1, .ref (X.2.1 + a1)), (2, .int v2), (3, .int v3)] [3, 4, 5, 6] rfl ?_
      exact hk95 _ h
set_option maxRecDepth 20000 in
theorem w_X10_supplyAt_L6 {X : ya_X} {G : ya_G} {a0 : Nat} {a1 : Nat} {v2 : Int32} {v3 : Int32} {d : ya_D} {rr : Int32} (hG : ya_Bk ya_sh ya_ln G 0) (h_a0 : ya_Bk shX10 lnX10 G a0) (h_a1 : ya_Bk shX6 lnX6 G a1) : ∀ (n : Nat) (v4 : Int32) (v5 : Int32), f_X10_supplyAt_L6 a0 a1 v2 v3 d n v4 v5 = some rr → ya_E X Y_X10_supplyAt (ya_M X (some (.int rr), G, d) 0 0) 6 [(0, .ref (X.2.1 + a0)), (1, .ref (X.2.1 + a1)), (2, .int v2), (3, .int v3), (4, .int v4), (5, .int v5)] [] G d 0 0 := by
  intro n
  induction n with
  | zero => intro v4 v5 h; cases h
  | succ n ih =>
    intro v4 v5 h
    rw [f_X10_supplyAt_L6] at h
    refine ya_iload 5 rfl dX10_supplyAt_6 ?_
    refine ya_aload_n 1 rfl dX10_supplyAt_8 ?_
    refine ya_getI fo_X10_71 (h_a1.o 0 rfl) (h_a1.lt 0 (by decide)) dX10_supplyAt_9 ?_
    refine ya_icmp_ge 55 (by decide) dX10_supplyAt_12 (fun c => ?_) (fun c => ?_)
    · replace h := ya_itet h c
      refine ya_iload 4 rfl dX10_supplyAt_55 ?_
      cases h
      exact ya_iret rfl rfl rfl rfl rfl (Nat.le_refl _) dX10_supplyAt_57
    · replace h := ya_itef h c
      refine ya_aload_n 1 rfl dX10_supplyAt_15 ?_
      refine ya_getR fo_X10_106 (h_a1.o 0 rfl) (h_a1.lt 0 (by decide)) (h_a1.l 0 rfl) dX10_supplyAt_16 ?_
      refine ya_iload 5 rfl dX10_supplyAt_19 ?_
      refine ya_iald (h_a1.s 1 rfl) (h_a1.lt 1 (by decide)) dX10_supplyAt_21 h (fun x21 h => ?_)
      refine ya_iload_n 2 rfl dX10_supplyAt_22 ?_
      refine ya_j1_s h (fun v4_49 => ya_E X Y_X10_supplyAt (ya_M X (some (.int rr), G, d) 0 0) 49 [(0, .ref (X.2.1 + a0)), (1, .ref (X.2.1 + a1)), (2, .int v2), (3, .int v3), (4, .int v4_49), (5, .int v5)] [] G d 0 0) (fun v4_49 h => ?_) (fun k49 hk49 h => ?_)
      · refine ya_iinc (v5 + 1) rfl 5 rfl [(5, .int (v5 + 1)), (0, .ref (X.2.1 + a0)), (1, .ref (X.2.1 + a1)), (2, .int v2), (3, .int v3), (4, .int v4_49)] (by decide) rfl dX10_supplyAt_49 ?_
        refine ya_goto 6 (by decide) dX10_supplyAt_52 ?_
        refine ya_sub [(0, .ref (X.2.1 + a0)), (1, .ref (X.2.1 + a1)), (2, .int v2), (3, .int v3), (4, .int v4_49), (5, .int (v5 + 1))] [1, 2, 3, 4, 5, 0] rfl ?_
        exact ih _ _ h
      · refine ya_icmp_ne 49 (by decide) dX10_supplyAt_23 (fun c => ?_) (fun c => ?_)
        · replace h := ya_itef h c
          exact hk49 _ h
        · replace h := ya_itet h c
          refine ya_aload_n 1 rfl dX10_supplyAt_26 ?_
          refine ya_getR fo_X10_152 (h_a1.o 0 rfl) (h_a1.lt 0 (by decide)) (h_a1.l 2 rfl) dX10_supplyAt_27 ?_
          refine ya_iload 5 rfl dX10_supplyAt_30 ?_
          refine ya_iald (h_a1.s 3 rfl) (h_a1.lt 3 (by decide)) dX10_supplyAt_32 h (fun x32 h => ?_)
          refine ya_iload_n 3 rfl dX10_supplyAt_33 ?_
          refine ya_icmp_gt 49 (by decide) dX10_supplyAt_34 (fun c => ?_) (fun c => ?_)
          · replace h := ya_itet h c
            exact hk49 _ h
          · replace h := ya_itef h c
            refine ya_iload 4 rfl dX10_supplyAt_37 ?_
            refine ya_aload_n 0 rfl dX10_supplyAt_39 ?_
            refine ya_getR fo_X10_33 (h_a0.o 0 rfl) (h_a0.lt 0 (by decide)) (h_a0.l 7 rfl) dX10_supplyAt_40 ?_
            refine ya_iload 5 rfl dX10_supplyAt_43 ?_
            refine ya_iald (h_a0.s 8 rfl) (h_a0.lt 8 (by decide)) dX10_supplyAt_45 h (fun x45 h => ?_)
            refine ya_iadd dX10_supplyAt_46 ?_
            refine ya_istore [(4, .int (v4 + x45)), (0, .ref (X.2.1 + a0)), (1, .ref (X.2.1 + a1)), (2, .int v2), (3, .int v3), (5, .int v5)] (by decide) rfl dX10_supplyAt_47 ?_
            refine ya_sub [(0, .ref (X.2.1 + a0)), (1, .ref (X.2.1 + a1)), (2, .int v2), (3, .int v3), (4, .int (v4 + x45)), (5, .int v5)] [1, 2, 3, 4, 0, 5] rfl ?_
            exact hk49 _ h
set_option maxRecDepth 20000 in
theorem c_X10_supplyAt {X : ya_X} {G : ya_G} {a0 : Nat} {a1 : Nat} {v2 : Int32} {v3 : Int32} {d : ya_D} {rr : Int32} (hG : ya_Bk ya_sh ya_ln G 0) (h_a0 : ya_Bk shX10 lnX10 G a0) (h_a1 : ya_Bk shX6 lnX6 G a1) (h : f_X10_supplyAt a0 a1 v2 v3 d = some rr) : ya_Ct X yX10_supplyAt Y_X10_supplyAt [.ref (X.2.1 + a0), .ref (X.2.1 + a1), .int v2, .int v3] G d (some (.int rr), G, d) := by
  refine ya_ct (by decide +kernel) rfl rfl (Nat.le_of_ble_eq_true rfl) ?_
  unfold f_X10_supplyAt at h
  show ya_E X Y_X10_supplyAt (ya_M X (some (.int rr), G, d) 0 0) 0 [(0, .ref (X.2.1 + a0)), (1, .ref (X.2.1 + a1)), (2, .int v2), (3, .int v3)] [] G d 0 0
  refine ya_iconst 0 (by decide) dX10_supplyAt_0 ?_
  refine ya_istore [(4, .int 0), (0, .ref (X.2.1 + a0)), (1, .ref (X.2.1 + a1)), (2, .int v2), (3, .int v3)] (by decide) rfl dX10_supplyAt_1 ?_
  refine ya_iconst 0 (by decide) dX10_supplyAt_3 ?_
  refine ya_istore [(5, .int 0), (4, .int 0), (0, .ref (X.2.1 + a0)), (1, .ref (X.2.1 + a1)), (2, .int v2), (3, .int v3)] (by decide) rfl dX10_supplyAt_4 ?_
  refine ya_sub [(0, .ref (X.2.1 + a0)), (1, .ref (X.2.1 + a1)), (2, .int v2), (3, .int v3), (4, .int 0), (5, .int 0)] [2, 3, 4, 5, 1, 0] rfl ?_
  refine w_X10_supplyAt_L6 hG h_a0 h_a1  ya_F _ _ h
set_option maxRecDepth 20000 in
theorem w_X10_gather_L8 {X : ya_X} {G : ya_G} {a0 : Nat} {a1 : Nat} {v2 : Int32} {v3 : Int32} {v4 : Int32} {rr : ya_D} (hG : ya_Bk ya_sh ya_ln G 0) (h_a0 : ya_Bk shX10 lnX10 G a0) (h_a1 : ya_Bk shX1 lnX1 G a1) : ∀ (n : Nat) (v5 : Int32) (d : ya_D), f_X10_gather_L8 a0 a1 v2 v3 v4 n v5 d = some rr → ya_E X Y_X10_gather (ya_M X (none, G, rr) 0 0) 8 [(0, .ref (X.2.1 + a0)), (1, .ref (X.2.1 + a1)), (2, .int v2), (3, .int v3), (4, .int v4), (5, .int v5)] [] G d 0 0 := by
  intro n
  induction n with
  | zero => intro v5 d h; cases h
  | succ n ih =>
    intro v5 d h
    rw [f_X10_gather_L8] at h
    refine ya_iload 5 rfl dX10_gather_8 ?_
    refine ya_aload_n 1 rfl dX10_gather_10 ?_
    refine ya_getI fo_X10_158 (h_a1.o 0 rfl) (h_a1.lt 0 (by decide)) dX10_gather_11 ?_
    refine ya_icmp_ge 57 (by decide) dX10_gather_14 (fun c => ?_) (fun c => ?_)
    · replace h := ya_itet h c
      cases h
      exact ya_vret rfl rfl rfl rfl rfl (Nat.le_refl _) dX10_gather_57
    · replace h := ya_itef h c
      refine ya_aload_n 1 rfl dX10_gather_17 ?_
      refine ya_iload 5 rfl dX10_gather_18 ?_
      refine ya_iload_n 2 rfl dX10_gather_20 ?_
      refine ya_iload_n 3 rfl dX10_gather_21 ?_
      refine ya_iload 4 rfl dX10_gather_22 ?_
      obtain ⟨x24, e24, h⟩ := ya_ob h
      refine ya_callVi (S := []) (c_X1_comes hG h_a1 e24) m_X1_comes ⟨rfl, rfl⟩ ml_X10_159 rfl ⟨Nat.le_of_ble_eq_true rfl, Nat.le_of_ble_eq_true rfl⟩ (Nat.le_of_ble_eq_true rfl) (h_a1.lt 0 (by decide)) (h_a1.o 0 rfl) (by decide) rfl rfl ⟨Nat.le_refl _, Nat.le_refl _⟩ dX10_gather_24 rfl ?_
      refine ya_j1_s h (fun d_51 => ya_E X Y_X10_gather (ya_M X (none, G, rr) 0 0) 51 [(0, .ref (X.2.1 + a0)), (1, .ref (X.2.1 + a1)), (2, .int v2), (3, .int v3), (4, .int v4), (5, .int v5)] [] G d_51 0 0) (fun d_51 h => ?_) (fun k51 hk51 h => ?_)
      · refine ya_iinc (v5 + 1) rfl 5 rfl [(5, .int (v5 + 1)), (0, .ref (X.2.1 + a0)), (1, .ref (X.2.1 + a1)), (2, .int v2), (3, .int v3), (4, .int v4)] (by decide) rfl dX10_gather_51 ?_
        refine ya_goto 8 (by decide) dX10_gather_54 ?_
        refine ya_sub [(0, .ref (X.2.1 + a0)), (1, .ref (X.2.1 + a1)), (2, .int v2), (3, .int v3), (4, .int v4), (5, .int (v5 + 1))] [1, 2, 3, 4, 5, 0] rfl ?_
        exact ih _ _ h
      · refine ya_ifeq 51 (by decide) dX10_gather_27 (fun c => ?_) (fun c => ?_)
        · replace h := ya_itet h c
          exact hk51 _ h
        · replace h := ya_itef h c
          refine ya_aload_n 0 rfl dX10_gather_30 ?_
          refine ya_getR fo_X10_51 (h_a0.o 0 rfl) (h_a0.lt 0 (by decide)) (h_a0.l 13 rfl) dX10_gather_31 ?_
          refine ya_aload_n 0 rfl dX10_gather_34 ?_
          refine ya_getI fo_X10_155 (h_a0.o 0 rfl) (h_a0.lt 0 (by decide)) dX10_gather_35 ?_
          refine ya_iload 5 rfl dX10_gather_38 ?_
          refine ya_iast (h_a0.s 14 rfl) (h_a0.lt 14 (by decide)) dX10_gather_40 h (fun d40 h => ?_)
          refine ya_aload_n 0 rfl dX10_gather_41 ?_
          refine ya_dup rfl dX10_gather_42 ?_
          refine ya_getI fo_X10_155 (h_a0.o 0 rfl) (h_a0.lt 0 (by decide)) dX10_gather_43 ?_
          refine ya_iconst 1 (by decide) dX10_gather_46 ?_
          refine ya_iadd dX10_gather_47 ?_
          refine ya_putIb fo_X10_155 (h_a0.o 0 rfl) (h_a0.lt 0 (by decide)) .int pf_X10_14 rfl rfl dX10_gather_48 h (fun d48 h => ?_)
          exact hk51 _ h
set_option maxRecDepth 20000 in
theorem c_X10_gather {X : ya_X} {G : ya_G} {a0 : Nat} {a1 : Nat} {v2 : Int32} {v3 : Int32} {v4 : Int32} {d : ya_D} {rr : ya_D} (hG : ya_Bk ya_sh ya_ln G 0) (h_a0 : ya_Bk shX10 lnX10 G a0) (h_a1 : ya_Bk shX1 lnX1 G a1) (h : f_X10_gather a0 a1 v2 v3 v4 d = some rr) : ya_Ct X yX10_gather Y_X10_gather [.ref (X.2.1 + a0), .ref (X.2.1 + a1), .int v2, .int v3, .int v4] G d (none, G, rr) := by
  refine ya_ct (by decide +kernel) rfl rfl (Nat.le_of_ble_eq_true rfl) ?_
  unfold f_X10_gather at h
  show ya_E X Y_X10_gather (ya_M X (none, G, rr) 0 0) 0 [(0, .ref (X.2.1 + a0)), (1, .ref (X.2.1 + a1)), (2, .int v2), (3, .int v3), (4, .int v4)] [] G d 0 0
  refine ya_aload_n 0 rfl dX10_gather_0 ?_
  refine ya_iconst 0 (by decide) dX10_gather_1 ?_
  refine ya_putIb fo_X10_155 (h_a0.o 0 rfl) (h_a0.lt 0 (by decide)) .int pf_X10_14 rfl rfl dX10_gather_2 h (fun d2 h => ?_)
  refine ya_iconst 0 (by decide) dX10_gather_5 ?_
  refine ya_istore [(5, .int 0), (0, .ref (X.2.1 + a0)), (1, .ref (X.2.1 + a1)), (2, .int v2), (3, .int v3), (4, .int v4)] (by decide) rfl dX10_gather_6 ?_
  refine ya_sub [(0, .ref (X.2.1 + a0)), (1, .ref (X.2.1 + a1)), (2, .int v2), (3, .int v3), (4, .int v4), (5, .int 0)] [1, 2, 3, 4, 5, 0] rfl ?_
  refine w_X10_gather_L8 hG h_a0 h_a1  ya_F _ _ h
set_option maxRecDepth 20000 in
theorem c_X10_draw {X : ya_X} {G : ya_G} {a0 : Nat} {v1 : Int32} {d : ya_D} {rr : (Int32 × ya_D)} (hG : ya_Bk ya_sh ya_ln G 0) (h_a0 : ya_Bk shX10 lnX10 G a0) (h : f_X10_draw a0 v1 d = some rr) : ya_Ct X yX10_draw Y_X10_draw [.ref (X.2.1 + a0), .int v1] G d (some (.int rr.1), G, rr.2) := by
  refine ya_ct (by decide +kernel) rfl rfl (Nat.le_of_ble_eq_true rfl) ?_
  unfold f_X10_draw at h
  show ya_E X Y_X10_draw (ya_M X (some (.int rr.1), G, rr.2) 0 0) 0 [(0, .ref (X.2.1 + a0)), (1, .int v1)] [] G d 0 0
  refine ya_aload_n 0 rfl dX10_draw_0 ?_
  refine ya_ldc2 1103515245 kc_X10_167 dX10_draw_1 ?_
  refine ya_aload_n 0 rfl dX10_draw_4 ?_
  refine ya_getL fo_X10_57 (h_a0.o 0 rfl) (h_a0.lt 0 (by decide)) dX10_draw_5 ?_
  refine ya_lmul dX10_draw_8 ?_
  refine ya_ldc2 12345 kc_X10_169 dX10_draw_9 ?_
  refine ya_ladd dX10_draw_12 ?_
  refine ya_ldc2 2147483648 kc_X10_171 dX10_draw_13 ?_
  refine ya_lrem (by decide) dX10_draw_16 ?_
  refine ya_putLb fo_X10_57 (h_a0.o 0 rfl) (h_a0.lt 0 (by decide)) pf_X10_16 dX10_draw_17 h (fun d17 h => ?_)
  refine ya_iload_n 1 rfl dX10_draw_20 ?_
  refine ya_ifle 39 (by decide) dX10_draw_21 (fun c => ?_) (fun c => ?_)
  · replace h := ya_itet h c
    refine ya_iconst 0 (by decide) dX10_draw_39 ?_
    cases h
    exact ya_iret rfl rfl rfl rfl rfl (Nat.le_refl _) dX10_draw_40
  · replace h := ya_itef h c
    refine ya_aload_n 0 rfl dX10_draw_24 ?_
    refine ya_getL fo_X10_57 (h_a0.o 0 rfl) (h_a0.lt 0 (by decide)) dX10_draw_25 ?_
    refine ya_ldc2 65536 kc_X10_173 dX10_draw_28 ?_
    refine ya_ldiv (by decide) dX10_draw_31 ?_
    refine ya_iload_n 1 rfl dX10_draw_32 ?_
    refine ya_i2l dX10_draw_33 ?_
    refine ya_lremb dX10_draw_34 h (fun x34 h => ?_)
    refine ya_l2i dX10_draw_35 ?_
    refine ya_goto 40 (by decide) dX10_draw_36 ?_
    cases h
    exact ya_iret rfl rfl rfl rfl rfl (Nat.le_refl _) dX10_draw_40
set_option maxRecDepth 20000 in
theorem w_X10_mix_L7 {X : ya_X} {G : ya_G} {a0 : Nat} {rr : ya_D} (hG : ya_Bk ya_sh ya_ln G 0) (h_a0 : ya_Bk shX10 lnX10 G a0) : ∀ (n : Nat) (v1 : Int32) (d : ya_D), f_X10_mix_L7 a0 n v1 d = some rr → ya_E X Y_X10_mix (ya_M X (none, G, rr) 0 0) 7 [(0, .ref (X.2.1 + a0)), (1, .int v1)] [] G d 0 0 := by
  intro n
  induction n with
  | zero => intro v1 d h; cases h
  | succ n ih =>
    intro v1 d h
    rw [f_X10_mix_L7] at h
    refine ya_iload_n 1 rfl dX10_mix_7 ?_
    refine ya_iconst 1 (by decide) dX10_mix_8 ?_
    refine ya_icmp_lt 52 (by decide) dX10_mix_9 (fun c => ?_) (fun c => ?_)
    · replace h := ya_itet h c
      cases h
      exact ya_vret rfl rfl rfl rfl rfl (Nat.le_refl _) dX10_mix_52
    · replace h := ya_itef h c
      refine ya_aload_n 0 rfl dX10_mix_12 ?_
      refine ya_iload_n 1 rfl dX10_mix_13 ?_
      refine ya_iconst 1 (by decide) dX10_mix_14 ?_
      refine ya_iadd dX10_mix_15 ?_
      obtain ⟨x16, d16, e16, h⟩ := ya_ob2 h
      refine ya_callVi (S := []) (c_X10_draw hG h_a0 e16) m_X10_draw ⟨rfl, rfl⟩ ml_X10_163 rfl ⟨Nat.le_of_ble_eq_true rfl, Nat.le_of_ble_eq_true rfl⟩ (Nat.le_of_ble_eq_true rfl) (h_a0.lt 0 (by decide)) (h_a0.o 0 rfl) (by decide) rfl rfl ⟨Nat.le_refl _, Nat.le_refl _⟩ dX10_mix_16 rfl ?_
      refine ya_istore_n [(2, .int x16), (0, .ref (X.2.1 + a0)), (1, .int v1)] (by decide) rfl dX10_mix_19 ?_
      refine ya_aload_n 1 rfl dX10_mix_20 ?_
      refine ya_getR fo_X10_51 (h_a0.o 0 rfl) (h_a0.lt 0 (by decide)) (h_a0.l 13 rfl) dX10_mix_21 ?_
      refine ya_iload_n 2 rfl dX10_mix_24 ?_
      refine ya_iald (h_a0.s 14 rfl) (h_a0.lt 14 (by decide)) dX10_mix_25 h (fun x25 h => ?_)
      refine ya_istore_n [(3, .int x25), (2, .int x16), (0, .ref (X.2.1 + a0)), (1, .int v1)] (by decide) rfl dX10_mix_26 ?_
      refine ya_aload_n 2 rfl dX10_mix_27 ?_
      refine ya_getR fo_X10_51 (h_a0.o 0 rfl) (h_a0.lt 0 (by decide)) (h_a0.l 13 rfl) dX10_mix_28 ?_
      refine ya_iload_n 3 rfl dX10_mix_31 ?_
      refine ya_aload_n 2 rfl dX10_mix_32 ?_
      refine ya_getR fo_X10_51 (h_a0.o 0 rfl) (h_a0.lt 0 (by decide)) (h_a0.l 13 rfl) dX10_mix_33 ?_
      refine ya_iload_n 1 rfl dX10_mix_36 ?_
      refine ya_iald (h_a0.s 14 rfl) (h_a0.lt 14 (by decide)) dX10_mix_37 h (fun x37 h => ?_)
      refine ya_iast (h_a0.s 14 rfl) (h_a0.lt 14 (by decide)) dX10_mix_38 h (fun d38 h => ?_)
      refine ya_aload_n 2 rfl dX10_mix_39 ?_
      refine ya_getR fo_X10_51 (h_a0.o 0 rfl) (h_a0.lt 0 (by decide)) (h_a0.l 13 rfl) dX10_mix_40 ?_
      refine ya_iload_n 1 rfl dX10_mix_43 ?_
      refine ya_iload_n 0 rfl dX10_mix_44 ?_
      refine ya_iast (h_a0.s 14 rfl) (h_a0.lt 14 (by decide)) dX10_mix_45 h (fun d45 h => ?_)
      refine ya_iinc (v1 + (-1)) (congrArg (fun z => v1 + z) (by decide : Int32.ofInt (-1) = (-1))) 3 rfl [(1, .int (v1 + (-1))), (3, .int x25), (2, .int x16), (0, .ref (X.2.1 + a0))] (by decide) rfl dX10_mix_46 ?_
      refine ya_goto 7 (by decide) dX10_mix_49 ?_
      refine ya_sub [(0, .ref (X.2.1 + a0)), (1, .int (v1 + (-1)))] [3, 0] rfl ?_
      exact ih _ _ h
set_option maxRecDepth 20000 in
theorem c_X10_mix {X : ya_X} {G : ya_G} {a0 : Nat} {d : ya_D} {rr : ya_D} (hG : ya_Bk ya_sh ya_ln G 0) (h_a0 : ya_Bk shX10 lnX10 G a0) (h : f_X10_mix a0 d = some rr) : ya_Ct X yX10_mix Y_X10_mix [.ref (X.2.1 + a0)] G d (none, G, rr) := by
  refine ya_ct (by decide +kernel) rfl rfl (Nat.le_of_ble_eq_true rfl) ?_
  unfold f_X10_mix at h
  show ya_E X Y_X10_mix (ya_M X (none, G, rr) 0 0) 0 [(0, .ref (X.2.1 + a0))] [] G d 0 0
  refine ya_aload_n 0 rfl dX10_mix_0 ?_
  refine ya_getI fo_X10_155 (h_a0.o 0 rfl) (h_a0.lt 0 (by decide)) dX10_mix_1 ?_
  refine ya_iconst 1 (by decide) dX10_mix_4 ?_
  refine ya_isub dX10_mix_5 ?_
  refine ya_istore_n [(1, .int ((d.1 a0 14) - 1)), (0, .ref (X.2.1 + a0))] (by decide) rfl dX10_mix_6 ?_
  refine ya_sub [(0, .ref (X.2.1 + a0)), (1, .int ((d.1 a0 14) - 1))] [1, 0] rfl ?_
  refine w_X10_mix_L7 hG h_a0  ya_F _ _ h
set_option maxRecDepth 20000 in
theorem w_X10_handOut_L6 {X : ya_X} {G : ya_G} {a0 : Nat} {a1 : Nat} {v3 : Int32} {rr : ya_D} (hG : ya_Bk ya_sh ya_ln G 0) (h_a0 : ya_Bk shX10 lnX10 G a0) (h_a1 : ya_Bk shX1 lnX1 G a1) : ∀ (n : Nat) (v4 : Int32) (v5 : Int32) (d : ya_D), f_X10_handOut_L6 a0 a1 v3 n v4 v5 d = some rr → ya_E X Y_X10_handOut (ya_M X (none, G, rr) 0 0) 6 [(0, .ref (X.2.1 + a0)), (1, .ref (X.2.1 + a1)), (3, .int v3), (4, .int v4), (5, .int v5)] [] G d 0 0 := by
  intro n
  induction n with
  | zero => intro v4 v5 d h; cases h
  | succ n ih =>
    intro v4 v5 d h
    rw [f_X10_handOut_L6] at h
    refine ya_iload 4 rfl dX10_handOut_6 ?_
    refine ya_aload_n 0 rfl dX10_handOut_8 ?_
    refine ya_getI fo_X10_155 (h_a0.o 0 rfl) (h_a0.lt 0 (by decide)) dX10_handOut_9 ?_
    refine ya_icmp_ge 77 (by decide) dX10_handOut_12 (fun c => ?_) (fun c => ?_)
    · replace h := ya_itet h c
      cases h
      exact ya_vret rfl rfl rfl rfl rfl (Nat.le_refl _) dX10_handOut_77
    · replace h := ya_itef h c
      refine ya_aload_n 0 rfl dX10_handOut_15 ?_
      refine ya_getR fo_X10_51 (h_a0.o 0 rfl) (h_a0.lt 0 (by decide)) (h_a0.l 13 rfl) dX10_handOut_16 ?_
      refine ya_iload 4 rfl dX10_handOut_19 ?_
      refine ya_iald (h_a0.s 14 rfl) (h_a0.lt 14 (by decide)) dX10_handOut_21 h (fun x21 h => ?_)
      refine ya_istore [(6, .int x21), (0, .ref (X.2.1 + a0)), (1, .ref (X.2.1 + a1)), (3, .int v3), (4, .int v4), (5, .int v5)] (by decide) rfl dX10_handOut_22 ?_
      refine ya_iload 4 rfl dX10_handOut_24 ?_
      refine ya_aload_n 2 rfl dX10_handOut_26 ?_
      refine ya_getR fo_X10_175 (h_a1.o 0 rfl) (h_a1.lt 0 (by decide)) (h_a1.l 1 rfl) dX10_handOut_27 ?_
      refine ya_iload 0 rfl dX10_handOut_30 ?_
      refine ya_iald (h_a1.s 2 rfl) (h_a1.lt 2 (by decide)) dX10_handOut_32 h (fun x32 h => ?_)
      refine ya_mmin ml_X10_132 wm_min1 wm_min2 wm_min3 (by decide) (Nat.le_of_ble_eq_true rfl) ⟨Nat.le_refl _, Nat.le_refl _⟩ dX10_handOut_33 ?_
      refine ya_istore [(7, .int (ya_min v4 x32)), (6, .int x21), (0, .ref (X.2.1 + a0)), (1, .ref (X.2.1 + a1)), (3, .int v3), (4, .int v4), (5, .int v5)] (by decide) rfl dX10_handOut_36 ?_
      refine ya_aload_n 2 rfl dX10_handOut_38 ?_
      refine ya_getR fo_X10_48 (h_a0.o 0 rfl) (h_a0.lt 0 (by decide)) (h_a0.l 12 rfl) dX10_handOut_39 ?_
      refine ya_iload 1 rfl dX10_handOut_42 ?_
      refine ya_dup2 rfl rfl dX10_handOut_44 ?_
      refine ya_iald (h_a0.s 13 rfl) (h_a0.lt 13 (by decide)) dX10_handOut_45 h (fun x45 h => ?_)
      refine ya_iload 0 rfl dX10_handOut_46 ?_
      refine ya_iadd dX10_handOut_48 ?_
      refine ya_iast (h_a0.s 13 rfl) (h_a0.lt 13 (by decide)) dX10_handOut_49 h (fun d49 h => ?_)
      refine ya_aload_n 2 rfl dX10_handOut_50 ?_
      refine ya_getR fo_X10_45 (h_a0.o 0 rfl) (h_a0.lt 0 (by decide)) (h_a0.l 11 rfl) dX10_handOut_51 ?_
      refine ya_iload 1 rfl dX10_handOut_54 ?_
      refine ya_dup2 rfl rfl dX10_handOut_56 ?_
      refine ya_iald (h_a0.s 12 rfl) (h_a0.lt 12 (by decide)) dX10_handOut_57 h (fun x57 h => ?_)
      refine ya_iload 0 rfl dX10_handOut_58 ?_
      refine ya_iload_n 4 rfl dX10_handOut_60 ?_
      refine ya_imul dX10_handOut_61 ?_
      refine ya_iadd dX10_handOut_62 ?_
      refine ya_iast (h_a0.s 12 rfl) (h_a0.lt 12 (by decide)) dX10_handOut_63 h (fun d63 h => ?_)
      refine ya_iload 5 rfl dX10_handOut_64 ?_
      refine ya_iload 0 rfl dX10_handOut_66 ?_
      refine ya_isub dX10_handOut_68 ?_
      refine ya_istore [(4, .int (v4 - (ya_min v4 x32))), (7, .int (ya_min v4 x32)), (6, .int x21), (0, .ref (X.2.1 + a0)), (1, .ref (X.2.1 + a1)), (3, .int v3), (5, .int v5)] (by decide) rfl dX10_handOut_69 ?_
      refine ya_iinc (v5 + 1) rfl 6 rfl [(5, .int (v5 + 1)), (4, .int (v4 - (ya_min v4 x32))), (7, .int (ya_min v4 x32)), (6, .int x21), (0, .ref (X.2.1 + a0)), (1, .ref (X.2.1 + a1)), (3, .int v3)] (by decide) rfl dX10_handOut_71 ?_
      refine ya_goto 6 (by decide) dX10_handOut_74 ?_
      refine ya_sub [(0, .ref (X.2.1 + a0)), (1, .ref (X.2.1 + a1)), (3, .int v3), (4, .int (v4 - (ya_min v4 x32))), (5, .int (v5 + 1))] [4, 5, 6, 1, 0] rfl ?_
      exact ih _ _ _ h
set_option maxRecDepth 20000 in
theorem c_X10_handOut {X : ya_X} {G : ya_G} {a0 : Nat} {a1 : Nat} {v2 : Int32} {v3 : Int32} {d : ya_D} {rr : ya_D} (hG : ya_Bk ya_sh ya_ln G 0) (h_a0 : ya_Bk shX10 lnX10 G a0) (h_a1 : ya_Bk shX1 lnX1 G a1) (h : f_X10_handOut a0 a1 v2 v3 d = some rr) : ya_Ct X yX10_handOut Y_X10_handOut [.ref (X.2.1 + a0), .ref (X.2.1 + a1), .int v2, .int v3] G d (none, G, rr) := by
  refine ya_ct (by decide +kernel) rfl rfl (Nat.le_of_ble_eq_true rfl) ?_
  unfold f_X10_handOut at h
  show ya_E X Y_X10_handOut (ya_M X (none, G, rr) 0 0) 0 [(0, .ref (X.2.1 + a0)), (1, .ref (X.2.1 + a1)), (2, .int v2), (3, .int v3)] [] G d 0 0
  refine ya_iload_n 2 rfl dX10_handOut_0 ?_
  refine ya_istore [(4, .int v2), (0, .ref (X.2.1 + a0)), (1, .ref (X.2.1 + a1)), (2, .int v2), (3, .int v3)] (by decide) rfl dX10_handOut_1 ?_
  refine ya_iconst 0 (by decide) dX10_handOut_3 ?_
  refine ya_istore [(5, .int 0), (4, .int v2), (0, .ref (X.2.1 + a0)), (1, .ref (X.2.1 + a1)), (2, .int v2), (3, .int v3)] (by decide) rfl dX10_handOut_4 ?_
  refine ya_sub [(0, .ref (X.2.1 + a0)), (1, .ref (X.2.1 + a1)), (3, .int v3), (4, .int v2), (5, .int 0)] [2, 3, 5, 1, 0] rfl ?_
  refine w_X10_handOut_L6 hG h_a0 h_a1  ya_F _ _ _ h
set_option maxRecDepth 20000 in
theorem w_X10_takeOldest_L6 {X : ya_X} {G : ya_G} {a0 : Nat} {v1 : Int32} {v2 : Int32} {rr : ya_D} (hG : ya_Bk ya_sh ya_ln G 0) (h_a0 : ya_Bk shX10 lnX10 G a0) : ∀ (n : Nat) (v4 : Int32) (v5 : Int32) (d : ya_D), f_X10_takeOldest_L6 a0 v1 v2 n v4 v5 d = some rr → ya_E X Y_X10_takeOldest (ya_M X (none, G, rr) 0 0) 6 [(0, .ref (X.2.1 + a0)), (1, .int v1), (2, .int v2), (4, .int v4), (5, .int v5)] [] G d 0 0 := by
  intro n
  induction n with
  | zero => intro v4 v5 d h; cases h
  | succ n ih =>
    intro v4 v5 d h
    rw [f_X10_takeOldest_L6] at h
    refine ya_iload 4 rfl dX10_takeOldest_6 ?_
    refine ya_iload_n 2 rfl dX10_takeOldest_8 ?_
    refine ya_icmp_gt 64 (by decide) dX10_takeOldest_9 (fun c => ?_) (fun c => ?_)
    · replace h := ya_itet h c
      cases h
      exact ya_vret rfl rfl rfl rfl rfl (Nat.le_refl _) dX10_takeOldest_64
    · replace h := ya_itef h c
      refine ya_iload 3 rfl dX10_takeOldest_12 ?_
      refine ya_ifle 64 (by decide) dX10_takeOldest_14 (fun c => ?_) (fun c => ?_)
      · replace h := ya_itet h c
        cases h
        exact ya_vret rfl rfl rfl rfl rfl (Nat.le_refl _) dX10_takeOldest_64
      · replace h := ya_itef h c
        refine ya_iload 3 rfl dX10_takeOldest_17 ?_
        refine ya_aload_n 0 rfl dX10_takeOldest_19 ?_
        refine ya_getR fo_X10_30 (h_a0.o 0 rfl) (h_a0.lt 0 (by decide)) (h_a0.l 6 rfl) dX10_takeOldest_20 ?_
        refine ya_iload_n 1 rfl dX10_takeOldest_23 ?_
        refine ya_iload 4 rfl dX10_takeOldest_24 ?_
        obtain ⟨x26, e26, h⟩ := ya_ob h
        refine ya_callSNi (S := [.ref (X.2.1 + (a0 + 7)), .int v4]) (c_X11_cell hG e26) m_X11_cell ⟨rfl, rfl⟩ 14 rfl rfl ⟨Nat.le_of_ble_eq_true rfl, Nat.le_of_ble_eq_true rfl⟩ (Nat.le_of_ble_eq_true rfl) ⟨Nat.le_refl _, Nat.le_refl _⟩ dX10_takeOldest_26 rfl ?_
        refine ya_iald (h_a0.s 7 rfl) (h_a0.lt 7 (by decide)) dX10_takeOldest_29 h (fun x29 h => ?_)
        refine ya_mmin ml_X10_132 wm_min1 wm_min2 wm_min3 (by decide) (Nat.le_of_ble_eq_true rfl) ⟨Nat.le_refl _, Nat.le_refl _⟩ dX10_takeOldest_30 ?_
        refine ya_istore [(6, .int (ya_min v4 x29)), (0, .ref (X.2.1 + a0)), (1, .int v1), (2, .int v2), (4, .int v4), (5, .int v5)] (by decide) rfl dX10_takeOldest_33 ?_
        refine ya_aload_n 1 rfl dX10_takeOldest_35 ?_
        refine ya_getR fo_X10_30 (h_a0.o 0 rfl) (h_a0.lt 0 (by decide)) (h_a0.l 6 rfl) dX10_takeOldest_36 ?_
        refine ya_iload_n 2 rfl dX10_takeOldest_39 ?_
        refine ya_iload 5 rfl dX10_takeOldest_40 ?_
        obtain ⟨x42, e42, h⟩ := ya_ob h
        refine ya_callSNi (S := [.ref (X.2.1 + (a0 + 7))]) (c_X11_cell hG e42) m_X11_cell ⟨rfl, rfl⟩ 14 rfl rfl ⟨Nat.le_of_ble_eq_true rfl, Nat.le_of_ble_eq_true rfl⟩ (Nat.le_of_ble_eq_true rfl) ⟨Nat.le_refl _, Nat.le_refl _⟩ dX10_takeOldest_42 rfl ?_
        refine ya_dup2 rfl rfl dX10_takeOldest_45 ?_
        refine ya_iald (h_a0.s 7 rfl) (h_a0.lt 7 (by decide)) dX10_takeOldest_46 h (fun x46 h => ?_)
        refine ya_iload 0 rfl dX10_takeOldest_47 ?_
        refine ya_isub dX10_takeOldest_49 ?_
        refine ya_iast (h_a0.s 7 rfl) (h_a0.lt 7 (by decide)) dX10_takeOldest_50 h (fun d50 h => ?_)
        refine ya_iload 4 rfl dX10_takeOldest_51 ?_
        refine ya_iload 0 rfl dX10_takeOldest_53 ?_
        refine ya_isub dX10_takeOldest_55 ?_
        refine ya_istore [(4, .int (v4 - (ya_min v4 x29))), (6, .int (ya_min v4 x29)), (0, .ref (X.2.1 + a0)), (1, .int v1), (2, .int v2), (5, .int v5)] (by decide) rfl dX10_takeOldest_56 ?_
        refine ya_iinc (v5 + 1) rfl 5 rfl [(5, .int (v5 + 1)), (4, .int (v4 - (ya_min v4 x29))), (6, .int (ya_min v4 x29)), (0, .ref (X.2.1 + a0)), (1, .int v1), (2, .int v2)] (by decide) rfl dX10_takeOldest_58 ?_
        refine ya_goto 6 (by decide) dX10_takeOldest_61 ?_
        refine ya_sub [(0, .ref (X.2.1 + a0)), (1, .int v1), (2, .int v2), (4, .int (v4 - (ya_min v4 x29))), (5, .int (v5 + 1))] [3, 4, 5, 1, 0] rfl ?_
        exact ih _ _ _ h
set_option maxRecDepth 20000 in
theorem c_X10_takeOldest {X : ya_X} {G : ya_G} {a0 : Nat} {v1 : Int32} {v2 : Int32} {v3 : Int32} {d : ya_D} {rr : ya_D} (hG : ya_Bk ya_sh ya_ln G 0) (h_a0 : ya_Bk shX10 lnX10 G a0) (h : f_X10_takeOldest a0 v1 v2 v3 d = some rr) : ya_Ct X yX10_takeOldest Y_X10_takeOldest [.ref (X.2.1 + a0), .int v1, .int v2, .int v3] G d (none, G, rr) := by
  refine ya_ct (by decide +kernel) rfl rfl (Nat.le_of_ble_eq_true rfl) ?_
  unfold f_X10_takeOldest at h
  show ya_E X Y_X10_takeOldest (ya_M X (none, G, rr) 0 0) 0 [(0, .ref (X.2.1 + a0)), (1, .int v1), (2, .int v2), (3, .int v3)] [] G d 0 0
  refine ya_iload_n 3 rfl dX10_takeOldest_0 ?_
  refine ya_istore [(4, .int v3), (0, .ref (X.2.1 + a0)), (1, .int v1), (2, .int v2), (3, .int v3)] (by decide) rfl dX10_takeOldest_1 ?_
  refine ya_iconst 0 (by decide) dX10_takeOldest_3 ?_
  refine ya_istore [(5, .int 0), (4, .int v3), (0, .ref (X.2.1 + a0)), (1, .int v1), (2, .int v2), (3, .int v3)] (by decide) rfl dX10_takeOldest_4 ?_
  refine ya_sub [(0, .ref (X.2.1 + a0)), (1, .int v1), (2, .int v2), (4, .int v3), (5, .int 0)] [2, 3, 4, 1, 0] rfl ?_
  refine w_X10_takeOldest_L6 hG h_a0  ya_F _ _ _ h
set_option maxRecDepth 20000 in
theorem w_X10_sell_L7 {X : ya_X} {G : ya_G} {a0 : Nat} {a1 : Nat} {v2 : Int32} {v3 : Int32} {v5 : Int32} {rr : ya_D} (hG : ya_Bk ya_sh ya_ln G 0) (h_a0 : ya_Bk shX10 lnX10 G a0) (h_a1 : ya_Bk shX6 lnX6 G a1) : ∀ (n : Nat) (v6 : Int32) (v7 : Int32) (d : ya_D), f_X10_sell_L7 a0 a1 v2 v3 v5 n v6 v7 d = some rr → ya_E X Y_X10_sell (ya_M X (none, G, rr) 0 0) 7 [(0, .ref (X.2.1 + a0)), (1, .ref (X.2.1 + a1)), (2, .int v2), (3, .int v3), (5, .int v5), (6, .int v6), (7, .int v7)] [] G d 0 0 := by
  intro n
  induction n with
  | zero => intro v6 v7 d h; cases h
  | succ n ih =>
    intro v6 v7 d h
    rw [f_X10_sell_L7] at h
    refine ya_iload 6 rfl dX10_sell_7 ?_
    refine ya_aload_n 1 rfl dX10_sell_9 ?_
    refine ya_getI fo_X10_71 (h_a1.o 0 rfl) (h_a1.lt 0 (by decide)) dX10_sell_10 ?_
    refine ya_icmp_ge 130 (by decide) dX10_sell_13 (fun c => ?_) (fun c => ?_)
    · replace h := ya_itet h c
      cases h
      exact ya_vret rfl rfl rfl rfl rfl (Nat.le_refl _) dX10_sell_130
    · replace h := ya_itef h c
      refine ya_aload_n 1 rfl dX10_sell_16 ?_
      refine ya_getR fo_X10_106 (h_a1.o 0 rfl) (h_a1.lt 0 (by decide)) (h_a1.l 0 rfl) dX10_sell_17 ?_
      refine ya_iload 6 rfl dX10_sell_20 ?_
      refine ya_iald (h_a1.s 1 rfl) (h_a1.lt 1 (by decide)) dX10_sell_22 h (fun x22 h => ?_)
      refine ya_iload_n 2 rfl dX10_sell_23 ?_
      refine ya_j2_s h (fun v6_124 d_124 => ya_E X Y_X10_sell (ya_M X (none, G, rr) 0 0) 124 [(0, .ref (X.2.1 + a0)), (1, .ref (X.2.1 + a1)), (2, .int v2), (3, .int v3), (5, .int v5), (6, .int v6_124), (7, .int v7)] [] G d_124 0 0) (fun v6_124 d_124 h => ?_) (fun k124 hk124 h => ?_)
      · refine ya_iinc (v7 + 1) rfl 6 rfl [(7, .int (v7 + 1)), (0, .ref (X.2.1 + a0)), (1, .ref (X.2.1 + a1)), (2, .int v2), (3, .int v3), (5, .int v5), (6, .int v6_124)] (by decide) rfl dX10_sell_124 ?_
        refine ya_goto 7 (by decide) dX10_sell_127 ?_
        refine ya_sub [(0, .ref (X.2.1 + a0)), (1, .ref (X.2.1 + a1)), (2, .int v2), (3, .int v3), (5, .int v5), (6, .int v6_124), (7, .int (v7 + 1))] [1, 2, 3, 4, 5, 6, 0] rfl ?_
        exact ih _ _ _ h
      · refine ya_icmp_ne 124 (by decide) dX10_sell_24 (fun c => ?_) (fun c => ?_)
        · replace h := ya_itef h c
          exact hk124 _ _ h
        · replace h := ya_itet h c
          refine ya_aload_n 1 rfl dX10_sell_27 ?_
          refine ya_getR fo_X10_152 (h_a1.o 0 rfl) (h_a1.lt 0 (by decide)) (h_a1.l 2 rfl) dX10_sell_28 ?_
          refine ya_iload 6 rfl dX10_sell_31 ?_
          refine ya_iald (h_a1.s 3 rfl) (h_a1.lt 3 (by decide)) dX10_sell_33 h (fun x33 h => ?_)
          refine ya_iload 4 rfl dX10_sell_34 ?_
          refine ya_icmp_gt 124 (by decide) dX10_sell_36 (fun c => ?_) (fun c => ?_)
          · replace h := ya_itet h c
            exact hk124 _ _ h
          · replace h := ya_itef h c
            refine ya_iload 5 rfl dX10_sell_39 ?_
            refine ya_aload_n 0 rfl dX10_sell_41 ?_
            refine ya_getR fo_X10_33 (h_a0.o 0 rfl) (h_a0.lt 0 (by decide)) (h_a0.l 7 rfl) dX10_sell_42 ?_
            refine ya_iload 6 rfl dX10_sell_45 ?_
            refine ya_iald (h_a0.s 8 rfl) (h_a0.lt 8 (by decide)) dX10_sell_47 h (fun x47 h => ?_)
            refine ya_mmin ml_X10_132 wm_min1 wm_min2 wm_min3 (by decide) (Nat.le_of_ble_eq_true rfl) ⟨Nat.le_refl _, Nat.le_refl _⟩ dX10_sell_48 ?_
            refine ya_istore [(8, .int (ya_min v6 x47)), (0, .ref (X.2.1 + a0)), (1, .ref (X.2.1 + a1)), (2, .int v2), (3, .int v3), (5, .int v5), (6, .int v6), (7, .int v7)] (by decide) rfl dX10_sell_51 ?_
            refine ya_aload_n 1 rfl dX10_sell_53 ?_
            refine ya_iload 7 rfl dX10_sell_54 ?_
            refine ya_iload_n 4 rfl dX10_sell_56 ?_
            refine ya_iload 0 rfl dX10_sell_57 ?_
            obtain ⟨d59, e59, h⟩ := ya_ob h
            refine ya_callVv (S := []) (c_X10_takeOldest hG h_a0 e59) m_X10_takeOldest ⟨rfl, rfl⟩ ml_X10_178 rfl ⟨Nat.le_of_ble_eq_true rfl, Nat.le_of_ble_eq_true rfl⟩ (Nat.le_of_ble_eq_true rfl) (h_a0.lt 0 (by decide)) (h_a0.o 0 rfl) (by decide) rfl rfl ⟨Nat.le_refl _, Nat.le_refl _⟩ dX10_sell_59 rfl ?_
            refine ya_aload_n 1 rfl dX10_sell_62 ?_
            refine ya_getR fo_X10_33 (h_a0.o 0 rfl) (h_a0.lt 0 (by decide)) (h_a0.l 7 rfl) dX10_sell_63 ?_
            refine ya_iload 7 rfl dX10_sell_66 ?_
            refine ya_dup2 rfl rfl dX10_sell_68 ?_
            refine ya_iald (h_a0.s 8 rfl) (h_a0.lt 8 (by decide)) dX10_sell_69 h (fun x69 h => ?_)
            refine ya_iload 0 rfl dX10_sell_70 ?_
            refine ya_isub dX10_sell_72 ?_
            refine ya_iast (h_a0.s 8 rfl) (h_a0.lt 8 (by decide)) dX10_sell_73 h (fun d73 h => ?_)
            refine ya_aload_n 1 rfl dX10_sell_74 ?_
            refine ya_getR fo_X10_39 (h_a0.o 0 rfl) (h_a0.lt 0 (by decide)) (h_a0.l 9 rfl) dX10_sell_75 ?_
            refine ya_iload 7 rfl dX10_sell_78 ?_
            refine ya_dup2 rfl rfl dX10_sell_80 ?_
            refine ya_iald (h_a0.s 10 rfl) (h_a0.lt 10 (by decide)) dX10_sell_81 h (fun x81 h => ?_)
            refine ya_iload 0 rfl dX10_sell_82 ?_
            refine ya_iadd dX10_sell_84 ?_
            refine ya_iast (h_a0.s 10 rfl) (h_a0.lt 10 (by decide)) dX10_sell_85 h (fun d85 h => ?_)
            refine ya_aload_n 1 rfl dX10_sell_86 ?_
            refine ya_getR fo_X10_36 (h_a0.o 0 rfl) (h_a0.lt 0 (by decide)) (h_a0.l 8 rfl) dX10_sell_87 ?_
            refine ya_iload 7 rfl dX10_sell_90 ?_
            refine ya_dup2 rfl rfl dX10_sell_92 ?_
            refine ya_iald (h_a0.s 9 rfl) (h_a0.lt 9 (by decide)) dX10_sell_93 h (fun x93 h => ?_)
            refine ya_iload 0 rfl dX10_sell_94 ?_
            refine ya_iload 5 rfl dX10_sell_96 ?_
            refine ya_imul dX10_sell_98 ?_
            refine ya_iadd dX10_sell_99 ?_
            refine ya_iast (h_a0.s 9 rfl) (h_a0.lt 9 (by decide)) dX10_sell_100 h (fun d100 h => ?_)
            refine ya_aload_n 1 rfl dX10_sell_101 ?_
            refine ya_getR fo_X10_24 (h_a0.o 0 rfl) (h_a0.lt 0 (by decide)) (h_a0.l 4 rfl) dX10_sell_102 ?_
            refine ya_iload 7 rfl dX10_sell_105 ?_
            refine ya_iload_n 4 rfl dX10_sell_107 ?_
            obtain ⟨x108, e108, h⟩ := ya_ob h
            refine ya_callSNi (S := [.ref (X.2.1 + (a0 + 5))]) (c_X11_cell hG e108) m_X11_cell ⟨rfl, rfl⟩ 14 rfl rfl ⟨Nat.le_of_ble_eq_true rfl, Nat.le_of_ble_eq_true rfl⟩ (Nat.le_of_ble_eq_true rfl) ⟨Nat.le_refl _, Nat.le_refl _⟩ dX10_sell_108 rfl ?_
            refine ya_iload 0 rfl dX10_sell_111 ?_
            refine ya_iload 5 rfl dX10_sell_113 ?_
            refine ya_imul dX10_sell_115 ?_
            refine ya_iast (h_a0.s 5 rfl) (h_a0.lt 5 (by decide)) dX10_sell_116 h (fun d116 h => ?_)
            refine ya_iload 6 rfl dX10_sell_117 ?_
            refine ya_iload 0 rfl dX10_sell_119 ?_
            refine ya_isub dX10_sell_121 ?_
            refine ya_istore [(6, .int (v6 - (ya_min v6 x47))), (8, .int (ya_min v6 x47)), (0, .ref (X.2.1 + a0)), (1, .ref (X.2.1 + a1)), (2, .int v2), (3, .int v3), (5, .int v5), (7, .int v7)] (by decide) rfl dX10_sell_122 ?_
            refine ya_sub [(0, .ref (X.2.1 + a0)), (1, .ref (X.2.1 + a1)), (2, .int v2), (3, .int v3), (5, .int v5), (6, .int (v6 - (ya_min v6 x47))), (7, .int v7)] [2, 3, 4, 5, 6, 0, 7] rfl ?_
            exact hk124 _ _ h
set_option maxRecDepth 20000 in
theorem c_X10_sell {X : ya_X} {G : ya_G} {a0 : Nat} {a1 : Nat} {v2 : Int32} {v3 : Int32} {v4 : Int32} {v5 : Int32} {d : ya_D} {rr : ya_D} (hG : ya_Bk ya_sh ya_ln G 0) (h_a0 : ya_Bk shX10 lnX10 G a0) (h_a1 : ya_Bk shX6 lnX6 G a1) (h : f_X10_sell a0 a1 v2 v3 v4 v5 d = some rr) : ya_Ct X yX10_sell Y_X10_sell [.ref (X.2.1 + a0), .ref (X.2.1 + a1), .int v2, .int v3, .int v4, .int v5] G d (none, G, rr) := by
  refine ya_ct (by decide +kernel) rfl rfl (Nat.le_of_ble_eq_true rfl) ?_
  unfold f_X10_sell at h
  show ya_E X Y_X10_sell (ya_M X (none, G, rr) 0 0) 0 [(0, .ref (X.2.1 + a0)), (1, .ref (X.2.1 + a1)), (2, .int v2), (3, .int v3), (4, .int v4), (5, .int v5)] [] G d 0 0
  refine ya_iload 4 rfl dX10_sell_0 ?_
  refine ya_istore [(6, .int v4), (0, .ref (X.2.1 + a0)), (1, .ref (X.2.1 + a1)), (2, .int v2), (3, .int v3), (4, .int v4), (5, .int v5)] (by decide) rfl dX10_sell_2 ?_
  refine ya_iconst 0 (by decide) dX10_sell_4 ?_
  refine ya_istore [(7, .int 0), (6, .int v4), (0, .ref (X.2.1 + a0)), (1, .ref (X.2.1 + a1)), (2, .int v2), (3, .int v3), (4, .int v4), (5, .int v5)] (by decide) rfl dX10_sell_5 ?_
  refine ya_sub [(0, .ref (X.2.1 + a0)), (1, .ref (X.2.1 + a1)), (2, .int v2), (3, .int v3), (5, .int v5), (6, .int v4), (7, .int 0)] [2, 3, 4, 5, 7, 1, 0] rfl ?_
  refine w_X10_sell_L7 hG h_a0 h_a1  ya_F _ _ _ h
set_option maxRecDepth 20000 in
theorem c_X10_trade {X : ya_X} {G : ya_G} {a0 : Nat} {a1 : Nat} {v2 : Int32} {v3 : Int32} {d : ya_D} {rr : ya_D} (hG : ya_Bk ya_sh ya_ln G 0) (h_a0 : ya_Bk shX10 lnX10 G a0) (h_a1 : ya_Bk shX2 lnX2 G a1) (h : f_X10_trade a0 a1 v2 v3 d = some rr) : ya_Ct X yX10_trade Y_X10_trade [.ref (X.2.1 + a0), .ref (X.2.1 + a1), .int v2, .int v3] G d (none, G, rr) := by
  refine ya_ct (by decide +kernel) rfl rfl (Nat.le_of_ble_eq_true rfl) ?_
  unfold f_X10_trade at h
  show ya_E X Y_X10_trade (ya_M X (none, G, rr) 0 0) 0 [(0, .ref (X.2.1 + a0)), (1, .ref (X.2.1 + a1)), (2, .int v2), (3, .int v3)] [] G d 0 0
  refine ya_iload_n 2 rfl dX10_trade_0 ?_
  refine ya_iload_n 3 rfl dX10_trade_1 ?_
  obtain ⟨x2, e2, h⟩ := ya_ob h
  refine ya_callSNi (S := []) (c_X11_cell hG e2) m_X11_cell ⟨rfl, rfl⟩ 14 rfl rfl ⟨Nat.le_of_ble_eq_true rfl, Nat.le_of_ble_eq_true rfl⟩ (Nat.le_of_ble_eq_true rfl) ⟨Nat.le_refl _, Nat.le_refl _⟩ dX10_trade_2 rfl ?_
  refine ya_istore [(4, .int x2), (0, .ref (X.2.1 + a0)), (1, .ref (X.2.1 + a1)), (2, .int v2), (3, .int v3)] (by decide) rfl dX10_trade_5 ?_
  refine ya_aload_n 2 rfl dX10_trade_7 ?_
  refine ya_getR fo_X10_80 (h_a1.o 0 rfl) (h_a1.lt 0 (by decide)) (h_a1.l 4 rfl) dX10_trade_8 ?_
  refine ya_getR fo_X10_115 (h_a1.o 1 rfl) (h_a1.lt 1 (by decide)) (h_a1.l 1 rfl) dX10_trade_11 ?_
  refine ya_iload 0 rfl dX10_trade_14 ?_
  refine ya_iald (h_a1.s 3 rfl) (h_a1.lt 3 (by decide)) dX10_trade_16 h (fun x16 h => ?_)
  refine ya_istore [(5, .int x16), (4, .int x2), (0, .ref (X.2.1 + a0)), (1, .ref (X.2.1 + a1)), (2, .int v2), (3, .int v3)] (by decide) rfl dX10_trade_17 ?_
  refine ya_aload_n 2 rfl dX10_trade_19 ?_
  refine ya_getR fo_X10_9 (h_a0.o 0 rfl) (h_a0.lt 0 (by decide)) (h_a0.l 0 rfl) dX10_trade_20 ?_
  refine ya_iload 1 rfl dX10_trade_23 ?_
  refine ya_aload_n 2 rfl dX10_trade_25 ?_
  refine ya_aload_n 3 rfl dX10_trade_26 ?_
  refine ya_getR fo_X10_67 (h_a1.o 0 rfl) (h_a1.lt 0 (by decide)) (h_a1.l 9 rfl) dX10_trade_27 ?_
  refine ya_iload_n 4 rfl dX10_trade_30 ?_
  refine ya_iload 0 rfl dX10_trade_31 ?_
  obtain ⟨x33, e33, h⟩ := ya_ob h
  refine ya_callVi (S := [.int x2, .ref (X.2.1 + (a0 + 1))]) (c_X10_supplyAt hG h_a0 (bk_X2_6 h_a1) e33) m_X10_supplyAt ⟨rfl, rfl⟩ ml_X10_118 rfl ⟨Nat.le_of_ble_eq_true rfl, Nat.le_of_ble_eq_true rfl⟩ (Nat.le_of_ble_eq_true rfl) (h_a0.lt 0 (by decide)) (h_a0.o 0 rfl) (by decide) rfl rfl ⟨Nat.le_refl _, Nat.le_refl _⟩ dX10_trade_33 rfl ?_
  refine ya_iast (h_a0.s 1 rfl) (h_a0.lt 1 (by decide)) dX10_trade_36 h (fun d36 h => ?_)
  refine ya_aload_n 2 rfl dX10_trade_37 ?_
  refine ya_getR fo_X10_15 (h_a0.o 0 rfl) (h_a0.lt 0 (by decide)) (h_a0.l 1 rfl) dX10_trade_38 ?_
  refine ya_iload 1 rfl dX10_trade_41 ?_
  refine ya_aload_n 3 rfl dX10_trade_43 ?_
  refine ya_getR fo_X10_122 (h_a1.o 0 rfl) (h_a1.lt 0 (by decide)) (h_a1.l 16 rfl) dX10_trade_44 ?_
  refine ya_iload_n 4 rfl dX10_trade_47 ?_
  refine ya_iload_n 5 rfl dX10_trade_48 ?_
  refine ya_iload 0 rfl dX10_trade_49 ?_
  obtain ⟨x51, e51, h⟩ := ya_ob h
  refine ya_callVi (S := [.int x2, .ref (X.2.1 + (a0 + 2))]) (c_X1_wanted hG (bk_X2_11 h_a1) e51) m_X1_wanted ⟨rfl, rfl⟩ ml_X10_126 rfl ⟨Nat.le_of_ble_eq_true rfl, Nat.le_of_ble_eq_true rfl⟩ (Nat.le_of_ble_eq_true rfl) (h_a1.lt 11 (by decide)) (h_a1.o 11 rfl) (by decide) rfl rfl ⟨Nat.le_refl _, Nat.le_refl _⟩ dX10_trade_51 rfl ?_
  refine ya_iast (h_a0.s 2 rfl) (h_a0.lt 2 (by decide)) dX10_trade_54 h (fun d54 h => ?_)
  refine ya_aload_n 2 rfl dX10_trade_55 ?_
  refine ya_getR fo_X10_18 (h_a0.o 0 rfl) (h_a0.lt 0 (by decide)) (h_a0.l 2 rfl) dX10_trade_56 ?_
  refine ya_iload 1 rfl dX10_trade_59 ?_
  refine ya_aload_n 2 rfl dX10_trade_61 ?_
  refine ya_getR fo_X10_9 (h_a0.o 0 rfl) (h_a0.lt 0 (by decide)) (h_a0.l 0 rfl) dX10_trade_62 ?_
  refine ya_iload 1 rfl dX10_trade_65 ?_
  refine ya_iald (h_a0.s 1 rfl) (h_a0.lt 1 (by decide)) dX10_trade_67 h (fun x67 h => ?_)
  refine ya_aload_n 2 rfl dX10_trade_68 ?_
  refine ya_getR fo_X10_15 (h_a0.o 0 rfl) (h_a0.lt 0 (by decide)) (h_a0.l 1 rfl) dX10_trade_69 ?_
  refine ya_iload 1 rfl dX10_trade_72 ?_
  refine ya_iald (h_a0.s 2 rfl) (h_a0.lt 2 (by decide)) dX10_trade_74 h (fun x74 h => ?_)
  refine ya_mmin ml_X10_132 wm_min1 wm_min2 wm_min3 (by decide) (Nat.le_of_ble_eq_true rfl) ⟨Nat.le_refl _, Nat.le_refl _⟩ dX10_trade_75 ?_
  refine ya_iast (h_a0.s 3 rfl) (h_a0.lt 3 (by decide)) dX10_trade_78 h (fun d78 h => ?_)
  refine ya_aload_n 2 rfl dX10_trade_79 ?_
  refine ya_aload_n 3 rfl dX10_trade_80 ?_
  refine ya_getR fo_X10_122 (h_a1.o 0 rfl) (h_a1.lt 0 (by decide)) (h_a1.l 16 rfl) dX10_trade_81 ?_
  refine ya_iload_n 4 rfl dX10_trade_84 ?_
  refine ya_iload_n 5 rfl dX10_trade_85 ?_
  refine ya_iload 0 rfl dX10_trade_86 ?_
  obtain ⟨d88, e88, h⟩ := ya_ob h
  refine ya_callVv (S := []) (c_X10_gather hG h_a0 (bk_X2_11 h_a1) e88) m_X10_gather ⟨rfl, rfl⟩ ml_X10_137 rfl ⟨Nat.le_of_ble_eq_true rfl, Nat.le_of_ble_eq_true rfl⟩ (Nat.le_of_ble_eq_true rfl) (h_a0.lt 0 (by decide)) (h_a0.o 0 rfl) (by decide) rfl rfl ⟨Nat.le_refl _, Nat.le_refl _⟩ dX10_trade_88 rfl ?_
  refine ya_aload_n 2 rfl dX10_trade_91 ?_
  refine ya_getR fo_X10_15 (h_a0.o 0 rfl) (h_a0.lt 0 (by decide)) (h_a0.l 1 rfl) dX10_trade_92 ?_
  refine ya_iload 1 rfl dX10_trade_95 ?_
  refine ya_iald (h_a0.s 2 rfl) (h_a0.lt 2 (by decide)) dX10_trade_97 h (fun x97 h => ?_)
  refine ya_aload_n 2 rfl dX10_trade_98 ?_
  refine ya_getR fo_X10_9 (h_a0.o 0 rfl) (h_a0.lt 0 (by decide)) (h_a0.l 0 rfl) dX10_trade_99 ?_
  refine ya_iload 1 rfl dX10_trade_102 ?_
  refine ya_iald (h_a0.s 1 rfl) (h_a0.lt 1 (by decide)) dX10_trade_104 h (fun x104 h => ?_)
  refine ya_j1_s h (fun d_122 => ya_E X Y_X10_trade (ya_M X (none, G, rr) 0 0) 122 [(0, .ref (X.2.1 + a0)), (1, .ref (X.2.1 + a1)), (2, .int v2), (3, .int v3), (4, .int x2), (5, .int x16)] [] G d_122 0 0) (fun d_122 h => ?_) (fun k122 hk122 h => ?_)
  · refine ya_aload_n 0 rfl dX10_trade_122 ?_
    refine ya_aload_n 1 rfl dX10_trade_123 ?_
    refine ya_getR fo_X10_122 (h_a1.o 0 rfl) (h_a1.lt 0 (by decide)) (h_a1.l 16 rfl) dX10_trade_124 ?_
    refine ya_aload_n 0 rfl dX10_trade_127 ?_
    refine ya_getR fo_X10_9 (h_a0.o 0 rfl) (h_a0.lt 0 (by decide)) (h_a0.l 0 rfl) dX10_trade_128 ?_
    refine ya_iload 4 rfl dX10_trade_131 ?_
    refine ya_iald (h_a0.s 1 rfl) (h_a0.lt 1 (by decide)) dX10_trade_133 h (fun x133 h => ?_)
    refine ya_iload 5 rfl dX10_trade_134 ?_
    obtain ⟨d136, e136, h⟩ := ya_ob h
    refine ya_callVv (S := []) (c_X10_handOut hG h_a0 (bk_X2_11 h_a1) e136) m_X10_handOut ⟨rfl, rfl⟩ ml_X10_144 rfl ⟨Nat.le_of_ble_eq_true rfl, Nat.le_of_ble_eq_true rfl⟩ (Nat.le_of_ble_eq_true rfl) (h_a0.lt 0 (by decide)) (h_a0.o 0 rfl) (by decide) rfl rfl ⟨Nat.le_refl _, Nat.le_refl _⟩ dX10_trade_136 rfl ?_
    refine ya_aload_n 0 rfl dX10_trade_139 ?_
    refine ya_aload_n 1 rfl dX10_trade_140 ?_
    refine ya_getR fo_X10_67 (h_a1.o 0 rfl) (h_a1.lt 0 (by decide)) (h_a1.l 9 rfl) dX10_trade_141 ?_
    refine ya_iload_n 2 rfl dX10_trade_144 ?_
    refine ya_iload_n 3 rfl dX10_trade_145 ?_
    refine ya_aload_n 0 rfl dX10_trade_146 ?_
    refine ya_getR fo_X10_18 (h_a0.o 0 rfl) (h_a0.lt 0 (by decide)) (h_a0.l 2 rfl) dX10_trade_147 ?_
    refine ya_iload 4 rfl dX10_trade_150 ?_
    refine ya_iald (h_a0.s 3 rfl) (h_a0.lt 3 (by decide)) dX10_trade_152 h (fun x152 h => ?_)
    refine ya_iload 5 rfl dX10_trade_153 ?_
    obtain ⟨d155, e155, h⟩ := ya_ob h
    refine ya_callVv (S := []) (c_X10_sell hG h_a0 (bk_X2_6 h_a1) e155) m_X10_sell ⟨rfl, rfl⟩ ml_X10_148 rfl ⟨Nat.le_of_ble_eq_true rfl, Nat.le_of_ble_eq_true rfl⟩ (Nat.le_of_ble_eq_true rfl) (h_a0.lt 0 (by decide)) (h_a0.o 0 rfl) (by decide) rfl rfl ⟨Nat.le_refl _, Nat.le_refl _⟩ dX10_trade_155 rfl ?_
    cases h
    exact ya_vret rfl rfl rfl rfl rfl (Nat.le_refl _) dX10_trade_158
  · refine ya_icmp_le 122 (by decide) dX10_trade_105 (fun c => ?_) (fun c => ?_)
    · replace h := ya_itet h c
      refine ya_sub [(0, .ref (X.2.1 + a0)), (1, .ref (X.2.1 + a1)), (2, .int v2), (3, .int v3), (4, .int x2), (5, .int x16)] [2, 3, 4, 5, 1, 0] rfl ?_
      exact hk122 _ h
    · replace h := ya_itef h c
      refine ya_aload_n 2 rfl dX10_trade_108 ?_
      refine ya_dup rfl dX10_trade_109 ?_
      refine ya_getI fo_X10_100 (h_a0.o 0 rfl) (h_a0.lt 0 (by decide)) dX10_trade_110 ?_
      refine ya_iconst 1 (by decide) dX10_trade_113 ?_
      refine ya_iadd dX10_trade_114 ?_
      refine ya_putIb fo_X10_100 (h_a0.o 0 rfl) (h_a0.lt 0 (by decide)) .int pf_X10_15 rfl rfl dX10_trade_115 h (fun d115 h => ?_)
      refine ya_aload_n 2 rfl dX10_trade_118 ?_
      obtain ⟨d119, e119, h⟩ := ya_ob h
      refine ya_callVv (S := []) (c_X10_mix hG h_a0 e119) m_X10_mix ⟨rfl, rfl⟩ ml_X10_141 rfl ⟨Nat.le_of_ble_eq_true rfl, Nat.le_of_ble_eq_true rfl⟩ (Nat.le_of_ble_eq_true rfl) (h_a0.lt 0 (by decide)) (h_a0.o 0 rfl) (by decide) rfl rfl ⟨Nat.le_refl _, Nat.le_refl _⟩ dX10_trade_119 rfl ?_
      refine ya_sub [(0, .ref (X.2.1 + a0)), (1, .ref (X.2.1 + a1)), (2, .int v2), (3, .int v3), (4, .int x2), (5, .int x16)] [2, 3, 4, 5, 1, 0] rfl ?_
      exact hk122 _ h
set_option maxRecDepth 20000 in
theorem w_X10_run_L23 {X : ya_X} {G : ya_G} {a0 : Nat} {a1 : Nat} {v3 : Int32} {rr : ya_D} {e49 : ya_D → Option ya_D} (hG : ya_Bk ya_sh ya_ln G 0) (h_a0 : ya_Bk shX10 lnX10 G a0) (h_a1 : ya_Bk shX2 lnX2 G a1) (he49 : ∀ (d : ya_D), e49 d = some rr → ya_E X Y_X10_run (ya_M X (none, G, rr) 0 0) 49 [(0, .ref (X.2.1 + a0)), (1, .ref (X.2.1 + a1)), (3, .int v3)] [] G d 0 0) : ∀ (n : Nat) (v4 : Int32) (d : ya_D), f_X10_run_L23 a0 a1 v3 e49 n v4 d = some rr → ya_E X Y_X10_run (ya_M X (none, G, rr) 0 0) 23 [(0, .ref (X.2.1 + a0)), (1, .ref (X.2.1 + a1)), (3, .int v3), (4, .int v4)] [] G d 0 0 := by
  intro n
  induction n with
  | zero => intro v4 d h; cases h
  | succ n ih =>
    intro v4 d h
    rw [f_X10_run_L23] at h
    refine ya_iload 3 rfl dX10_run_23 ?_
    refine ya_aload_n 1 rfl dX10_run_25 ?_
    refine ya_getR fo_X10_67 (h_a1.o 0 rfl) (h_a1.lt 0 (by decide)) (h_a1.l 9 rfl) dX10_run_26 ?_
    refine ya_getI fo_X10_71 (h_a1.o 6 rfl) (h_a1.lt 6 (by decide)) dX10_run_29 ?_
    refine ya_icmp_ge 49 (by decide) dX10_run_32 (fun c => ?_) (fun c => ?_)
    · replace h := ya_itet h c
      refine ya_sub [(0, .ref (X.2.1 + a0)), (1, .ref (X.2.1 + a1)), (3, .int v3)] [0, 1, 2] rfl ?_
      exact he49 _ h
    · replace h := ya_itef h c
      refine ya_aload_n 0 rfl dX10_run_35 ?_
      refine ya_aload_n 1 rfl dX10_run_36 ?_
      refine ya_iload 3 rfl dX10_run_37 ?_
      refine ya_iload_n 2 rfl dX10_run_39 ?_
      obtain ⟨d40, e40, h⟩ := ya_ob h
      refine ya_callVv (S := []) (c_X10_begin hG h_a0 h_a1 e40) m_X10_begin ⟨rfl, rfl⟩ ml_X10_76 rfl ⟨Nat.le_of_ble_eq_true rfl, Nat.le_of_ble_eq_true rfl⟩ (Nat.le_of_ble_eq_true rfl) (h_a0.lt 0 (by decide)) (h_a0.o 0 rfl) (by decide) rfl rfl ⟨Nat.le_refl _, Nat.le_refl _⟩ dX10_run_40 rfl ?_
      refine ya_iinc (v4 + 1) rfl 3 rfl [(4, .int (v4 + 1)), (0, .ref (X.2.1 + a0)), (1, .ref (X.2.1 + a1)), (3, .int v3)] (by decide) rfl dX10_run_43 ?_
      refine ya_goto 23 (by decide) dX10_run_46 ?_
      refine ya_sub [(0, .ref (X.2.1 + a0)), (1, .ref (X.2.1 + a1)), (3, .int v3), (4, .int (v4 + 1))] [1, 2, 3, 0] rfl ?_
      exact ih _ _ h
set_option maxRecDepth 20000 in
theorem w_X10_run_L52 {X : ya_X} {G : ya_G} {a0 : Nat} {a1 : Nat} {v3 : Int32} {rr : ya_D} {e78 : ya_D → Option ya_D} (hG : ya_Bk ya_sh ya_ln G 0) (h_a0 : ya_Bk shX10 lnX10 G a0) (h_a1 : ya_Bk shX2 lnX2 G a1) (he78 : ∀ (d : ya_D), e78 d = some rr → ya_E X Y_X10_run (ya_M X (none, G, rr) 0 0) 78 [(0, .ref (X.2.1 + a0)), (1, .ref (X.2.1 + a1)), (3, .int v3)] [] G d 0 0) : ∀ (n : Nat) (v4 : Int32) (d : ya_D), f_X10_run_L52 a0 a1 v3 e78 n v4 d = some rr → ya_E X Y_X10_run (ya_M X (none, G, rr) 0 0) 52 [(0, .ref (X.2.1 + a0)), (1, .ref (X.2.1 + a1)), (3, .int v3), (4, .int v4)] [] G d 0 0 := by
  intro n
  induction n with
  | zero => intro v4 d h; cases h
  | succ n ih =>
    intro v4 d h
    rw [f_X10_run_L52] at h
    refine ya_iload 3 rfl dX10_run_52 ?_
    refine ya_aload_n 1 rfl dX10_run_54 ?_
    refine ya_getR fo_X10_80 (h_a1.o 0 rfl) (h_a1.lt 0 (by decide)) (h_a1.l 4 rfl) dX10_run_55 ?_
    refine ya_getI fo_X10_84 (h_a1.o 1 rfl) (h_a1.lt 1 (by decide)) dX10_run_58 ?_
    refine ya_icmp_ge 78 (by decide) dX10_run_61 (fun c => ?_) (fun c => ?_)
    · replace h := ya_itet h c
      refine ya_sub [(0, .ref (X.2.1 + a0)), (1, .ref (X.2.1 + a1)), (3, .int v3)] [0, 1, 2] rfl ?_
      exact he78 _ h
    · replace h := ya_itef h c
      refine ya_aload_n 0 rfl dX10_run_64 ?_
      refine ya_aload_n 1 rfl dX10_run_65 ?_
      refine ya_iload 3 rfl dX10_run_66 ?_
      refine ya_iload_n 2 rfl dX10_run_68 ?_
      obtain ⟨d69, e69, h⟩ := ya_ob h
      refine ya_callVv (S := []) (c_X10_trade hG h_a0 h_a1 e69) m_X10_trade ⟨rfl, rfl⟩ ml_X10_87 rfl ⟨Nat.le_of_ble_eq_true rfl, Nat.le_of_ble_eq_true rfl⟩ (Nat.le_of_ble_eq_true rfl) (h_a0.lt 0 (by decide)) (h_a0.o 0 rfl) (by decide) rfl rfl ⟨Nat.le_refl _, Nat.le_refl _⟩ dX10_run_69 rfl ?_
      refine ya_iinc (v4 + 1) rfl 3 rfl [(4, .int (v4 + 1)), (0, .ref (X.2.1 + a0)), (1, .ref (X.2.1 + a1)), (3, .int v3)] (by decide) rfl dX10_run_72 ?_
      refine ya_goto 52 (by decide) dX10_run_75 ?_
      refine ya_sub [(0, .ref (X.2.1 + a0)), (1, .ref (X.2.1 + a1)), (3, .int v3), (4, .int (v4 + 1))] [1, 2, 3, 0] rfl ?_
      exact ih _ _ h
set_option maxRecDepth 20000 in
theorem w_X10_run_L81 {X : ya_X} {G : ya_G} {a0 : Nat} {a1 : Nat} {v3 : Int32} {rr : ya_D} {e117 : ya_D → Option ya_D} (hG : ya_Bk ya_sh ya_ln G 0) (h_a0 : ya_Bk shX10 lnX10 G a0) (h_a1 : ya_Bk shX2 lnX2 G a1) (he117 : ∀ (d : ya_D), e117 d = some rr → ya_E X Y_X10_run (ya_M X (none, G, rr) 0 0) 117 [(0, .ref (X.2.1 + a0)), (1, .ref (X.2.1 + a1)), (3, .int v3)] [] G d 0 0) : ∀ (n : Nat) (v4 : Int32) (d : ya_D), f_X10_run_L81 a0 a1 v3 e117 n v4 d = some rr → ya_E X Y_X10_run (ya_M X (none, G, rr) 0 0) 81 [(0, .ref (X.2.1 + a0)), (1, .ref (X.2.1 + a1)), (3, .int v3), (4, .int v4)] [] G d 0 0 := by
  intro n
  induction n with
  | zero => intro v4 d h; cases h
  | succ n ih =>
    intro v4 d h
    rw [f_X10_run_L81] at h
    refine ya_iload 3 rfl dX10_run_81 ?_
    refine ya_aload_n 1 rfl dX10_run_83 ?_
    refine ya_getR fo_X10_67 (h_a1.o 0 rfl) (h_a1.lt 0 (by decide)) (h_a1.l 9 rfl) dX10_run_84 ?_
    refine ya_getI fo_X10_71 (h_a1.o 6 rfl) (h_a1.lt 6 (by decide)) dX10_run_87 ?_
    refine ya_icmp_ge 117 (by decide) dX10_run_90 (fun c => ?_) (fun c => ?_)
    · replace h := ya_itet h c
      refine ya_sub [(0, .ref (X.2.1 + a0)), (1, .ref (X.2.1 + a1)), (3, .int v3)] [0, 1, 2] rfl ?_
      exact he117 _ h
    · replace h := ya_itef h c
      refine ya_aload_n 0 rfl dX10_run_93 ?_
      refine ya_getR fo_X10_27 (h_a0.o 0 rfl) (h_a0.lt 0 (by decide)) (h_a0.l 5 rfl) dX10_run_94 ?_
      refine ya_iload 3 rfl dX10_run_97 ?_
      refine ya_iload_n 2 rfl dX10_run_99 ?_
      obtain ⟨x100, e100, h⟩ := ya_ob h
      refine ya_callSNi (S := [.ref (X.2.1 + (a0 + 6))]) (c_X11_cell hG e100) m_X11_cell ⟨rfl, rfl⟩ 14 rfl rfl ⟨Nat.le_of_ble_eq_true rfl, Nat.le_of_ble_eq_true rfl⟩ (Nat.le_of_ble_eq_true rfl) ⟨Nat.le_refl _, Nat.le_refl _⟩ dX10_run_100 rfl ?_
      refine ya_aload_n 0 rfl dX10_run_103 ?_
      refine ya_getR fo_X10_33 (h_a0.o 0 rfl) (h_a0.lt 0 (by decide)) (h_a0.l 7 rfl) dX10_run_104 ?_
      refine ya_iload 3 rfl dX10_run_107 ?_
      refine ya_iald (h_a0.s 8 rfl) (h_a0.lt 8 (by decide)) dX10_run_109 h (fun x109 h => ?_)
      refine ya_iast (h_a0.s 6 rfl) (h_a0.lt 6 (by decide)) dX10_run_110 h (fun d110 h => ?_)
      refine ya_iinc (v4 + 1) rfl 3 rfl [(4, .int (v4 + 1)), (0, .ref (X.2.1 + a0)), (1, .ref (X.2.1 + a1)), (3, .int v3)] (by decide) rfl dX10_run_111 ?_
      refine ya_goto 81 (by decide) dX10_run_114 ?_
      refine ya_sub [(0, .ref (X.2.1 + a0)), (1, .ref (X.2.1 + a1)), (3, .int v3), (4, .int (v4 + 1))] [1, 2, 3, 0] rfl ?_
      exact ih _ _ h
set_option maxRecDepth 20000 in
theorem w_X10_run_L12 {X : ya_X} {G : ya_G} {a0 : Nat} {a1 : Nat} {rr : ya_D} (hG : ya_Bk ya_sh ya_ln G 0) (h_a0 : ya_Bk shX10 lnX10 G a0) (h_a1 : ya_Bk shX2 lnX2 G a1) : ∀ (n : Nat) (v3 : Int32) (d : ya_D), f_X10_run_L12 a0 a1 n v3 d = some rr → ya_E X Y_X10_run (ya_M X (none, G, rr) 0 0) 12 [(0, .ref (X.2.1 + a0)), (1, .ref (X.2.1 + a1)), (3, .int v3)] [] G d 0 0 := by
  intro n
  induction n with
  | zero => intro v3 d h; cases h
  | succ n ih =>
    intro v3 d h
    rw [f_X10_run_L12] at h
    refine ya_iload_n 2 rfl dX10_run_12 ?_
    refine ya_aload_n 1 rfl dX10_run_13 ?_
    refine ya_getI fo_X10_61 (h_a1.o 0 rfl) (h_a1.lt 0 (by decide)) dX10_run_14 ?_
    refine ya_icmp_ge 123 (by decide) dX10_run_17 (fun c => ?_) (fun c => ?_)
    · replace h := ya_itet h c
      cases h
      exact ya_vret rfl rfl rfl rfl rfl (Nat.le_refl _) dX10_run_123
    · replace h := ya_itef h c
      refine ya_iconst 0 (by decide) dX10_run_20 ?_
      refine ya_istore [(4, .int 0), (0, .ref (X.2.1 + a0)), (1, .ref (X.2.1 + a1)), (3, .int v3)] (by decide) rfl dX10_run_21 ?_
      refine ya_sub [(0, .ref (X.2.1 + a0)), (1, .ref (X.2.1 + a1)), (3, .int v3), (4, .int 0)] [1, 2, 3, 0] rfl ?_
      refine w_X10_run_L23 hG h_a0 h_a1 (fun d_49 h => ?_) ya_F _ _ h
      refine ya_iconst 0 (by decide) dX10_run_49 ?_
      refine ya_istore [(4, .int 0), (0, .ref (X.2.1 + a0)), (1, .ref (X.2.1 + a1)), (3, .int v3)] (by decide) rfl dX10_run_50 ?_
      refine ya_sub [(0, .ref (X.2.1 + a0)), (1, .ref (X.2.1 + a1)), (3, .int v3), (4, .int 0)] [1, 2, 3, 0] rfl ?_
      refine w_X10_run_L52 hG h_a0 h_a1 (fun d_78 h => ?_) ya_F _ _ h
      refine ya_iconst 0 (by decide) dX10_run_78 ?_
      refine ya_istore [(4, .int 0), (0, .ref (X.2.1 + a0)), (1, .ref (X.2.1 + a1)), (3, .int v3)] (by decide) rfl dX10_run_79 ?_
      refine ya_sub [(0, .ref (X.2.1 + a0)), (1, .ref (X.2.1 + a1)), (3, .int v3), (4, .int 0)] [1, 2, 3, 0] rfl ?_
      refine w_X10_run_L81 hG h_a0 h_a1 (fun d_117 h => ?_) ya_F _ _ h
      refine ya_iinc (v3 + 1) rfl 2 rfl [(3, .int (v3 + 1)), (0, .ref (X.2.1 + a0)), (1, .ref (X.2.1 + a1))] (by decide) rfl dX10_run_117 ?_
      refine ya_goto 12 (by decide) dX10_run_120 ?_
      refine ya_sub [(0, .ref (X.2.1 + a0)), (1, .ref (X.2.1 + a1)), (3, .int (v3 + 1))] [1, 2, 0] rfl ?_
      exact ih _ _ h
set_option maxRecDepth 20000 in
theorem c_X10_run {X : ya_X} {G : ya_G} {a0 : Nat} {a1 : Nat} {v2 : Int32} {d : ya_D} {rr : ya_D} (hG : ya_Bk ya_sh ya_ln G 0) (h_a0 : ya_Bk shX10 lnX10 G a0) (h_a1 : ya_Bk shX2 lnX2 G a1) (h : f_X10_run a0 a1 v2 d = some rr) : ya_Ct X yX10_run Y_X10_run [.ref (X.2.1 + a0), .ref (X.2.1 + a1), .int v2] G d (none, G, rr) := by
  refine ya_ct (by decide +kernel) rfl rfl (Nat.le_of_ble_eq_true rfl) ?_
  unfold f_X10_run at h
  show ya_E X Y_X10_run (ya_M X (none, G, rr) 0 0) 0 [(0, .ref (X.2.1 + a0)), (1, .ref (X.2.1 + a1)), (2, .int v2)] [] G d 0 0
  refine ya_aload_n 0 rfl dX10_run_0 ?_
  obtain ⟨d1, e1, h⟩ := ya_ob h
  refine ya_callVv (S := []) (c_X10_forget hG h_a0 e1) m_X10_forget ⟨rfl, rfl⟩ ml_X10_54 rfl ⟨Nat.le_of_ble_eq_true rfl, Nat.le_of_ble_eq_true rfl⟩ (Nat.le_of_ble_eq_true rfl) (h_a0.lt 0 (by decide)) (h_a0.o 0 rfl) (by decide) rfl rfl ⟨Nat.le_refl _, Nat.le_refl _⟩ dX10_run_1 rfl ?_
  refine ya_aload_n 0 rfl dX10_run_4 ?_
  refine ya_iload_n 2 rfl dX10_run_5 ?_
  refine ya_i2l dX10_run_6 ?_
  refine ya_putLb fo_X10_57 (h_a0.o 0 rfl) (h_a0.lt 0 (by decide)) pf_X10_16 dX10_run_7 h (fun d7 h => ?_)
  refine ya_iconst 0 (by decide) dX10_run_10 ?_
  refine ya_istore_n [(3, .int 0), (0, .ref (X.2.1 + a0)), (1, .ref (X.2.1 + a1)), (2, .int v2)] (by decide) rfl dX10_run_11 ?_
  refine ya_sub [(0, .ref (X.2.1 + a0)), (1, .ref (X.2.1 + a1)), (3, .int 0)] [1, 2, 0] rfl ?_
  refine w_X10_run_L12 hG h_a0 h_a1  ya_F _ _ h
set_option maxRecDepth 20000 in
theorem w_X10_takings_L5 {X : ya_X} {G : ya_G} {a0 : Nat} {v1 : Int32} {v2 : Int32} {d : ya_D} {rr : Int32} (hG : ya_Bk ya_sh ya_ln G 0) (h_a0 : ya_Bk shX10 lnX10 G a0) : ∀ (n : Nat) (v3 : Int32) (v4 : Int32), f_X10_takings_L5 a0 v1 v2 d n v3 v4 = some rr → ya_E X Y_X10_takings (ya_M X (some (.int rr), G, d) 0 0) 5 [(0, .ref (X.2.1 + a0)), (1, .int v1), (2, .int v2), (3, .int v3), (4, .int v4)] [] G d 0 0 := by
  intro n
  induction n with
  | zero => intro v3 v4 h; cases h
  | succ n ih =>
    intro v3 v4 h
    rw [f_X10_takings_L5] at h
    refine ya_iload 4 rfl dX10_takings_5 ?_
    refine ya_iconst 5 (by decide) dX10_takings_7 ?_
    refine ya_icmp_ge 41 (by decide) dX10_takings_8 (fun c => ?_) (fun c => ?_)
    · replace h := ya_itet h c
      refine ya_iload_n 3 rfl dX10_takings_41 ?_
      cases h
      exact ya_iret rfl rfl rfl rfl rfl (Nat.le_refl _) dX10_takings_42
    · replace h := ya_itef h c
      refine ya_iload_n 1 rfl dX10_takings_11 ?_
      refine ya_iload 4 rfl dX10_takings_12 ?_
      refine ya_ishr dX10_takings_14 ?_
      refine ya_iconst 1 (by decide) dX10_takings_15 ?_
      refine ya_iand dX10_takings_16 ?_
      refine ya_iconst 1 (by decide) dX10_takings_17 ?_
      refine ya_j1_s h (fun v3_35 => ya_E X Y_X10_takings (ya_M X (some (.int rr), G, d) 0 0) 35 [(0, .ref (X.2.1 + a0)), (1, .int v1), (2, .int v2), (3, .int v3_35), (4, .int v4)] [] G d 0 0) (fun v3_35 h => ?_) (fun k35 hk35 h => ?_)
      · refine ya_iinc (v4 + 1) rfl 4 rfl [(4, .int (v4 + 1)), (0, .ref (X.2.1 + a0)), (1, .int v1), (2, .int v2), (3, .int v3_35)] (by decide) rfl dX10_takings_35 ?_
        refine ya_goto 5 (by decide) dX10_takings_38 ?_
        refine ya_sub [(0, .ref (X.2.1 + a0)), (1, .int v1), (2, .int v2), (3, .int v3_35), (4, .int (v4 + 1))] [1, 2, 3, 4, 0] rfl ?_
        exact ih _ _ h
      · refine ya_icmp_ne 35 (by decide) dX10_takings_18 (fun c => ?_) (fun c => ?_)
        · replace h := ya_itef h c
          exact hk35 _ h
        · replace h := ya_itet h c
          refine ya_iload_n 3 rfl dX10_takings_21 ?_
          refine ya_aload_n 0 rfl dX10_takings_22 ?_
          refine ya_getR fo_X10_24 (h_a0.o 0 rfl) (h_a0.lt 0 (by decide)) (h_a0.l 4 rfl) dX10_takings_23 ?_
          refine ya_iload 4 rfl dX10_takings_26 ?_
          refine ya_iload_n 2 rfl dX10_takings_28 ?_
          obtain ⟨x29, e29, h⟩ := ya_ob h
          refine ya_callSNi (S := [.ref (X.2.1 + (a0 + 5)), .int v3]) (c_X11_cell hG e29) m_X11_cell ⟨rfl, rfl⟩ 14 rfl rfl ⟨Nat.le_of_ble_eq_true rfl, Nat.le_of_ble_eq_true rfl⟩ (Nat.le_of_ble_eq_true rfl) ⟨Nat.le_refl _, Nat.le_refl _⟩ dX10_takings_29 rfl ?_
          refine ya_iald (h_a0.s 5 rfl) (h_a0.lt 5 (by decide)) dX10_takings_32 h (fun x32 h => ?_)
          refine ya_iadd dX10_takings_33 ?_
          refine ya_istore_n [(3, .int (v3 + x32)), (0, .ref (X.2.1 + a0)), (1, .int v1), (2, .int v2), (4, .int v4)] (by decide) rfl dX10_takings_34 ?_
          refine ya_sub [(0, .ref (X.2.1 + a0)), (1, .int v1), (2, .int v2), (3, .int (v3 + x32)), (4, .int v4)] [1, 2, 3, 0, 4] rfl ?_
          exact hk35 _ h
set_option maxRecDepth 20000 in
theorem c_X10_takings {X : ya_X} {G : ya_G} {a0 : Nat} {v1 : Int32} {v2 : Int32} {d : ya_D} {rr : Int32} (hG : ya_Bk ya_sh ya_ln G 0) (h_a0 : ya_Bk shX10 lnX10 G a0) (h : f_X10_takings a0 v1 v2 d = some rr) : ya_Ct X yX10_takings Y_X10_takings [.ref (X.2.1 + a0), .int v1, .int v2] G d (some (.int rr), G, d) := by
  refine ya_ct (by decide +kernel) rfl rfl (Nat.le_of_ble_eq_true rfl) ?_
  unfold f_X10_takings at h
  show ya_E X Y_X10_takings (ya_M X (some (.int rr), G, d) 0 0) 0 [(0, .ref (X.2.1 + a0)), (1, .int v1), (2, .int v2)] [] G d 0 0
  refine ya_iconst 0 (by decide) dX10_takings_0 ?_
  refine ya_istore_n [(3, .int 0), (0, .ref (X.2.1 + a0)), (1, .int v1), (2, .int v2)] (by decide) rfl dX10_takings_1 ?_
  refine ya_iconst 0 (by decide) dX10_takings_2 ?_
  refine ya_istore [(4, .int 0), (3, .int 0), (0, .ref (X.2.1 + a0)), (1, .int v1), (2, .int v2)] (by decide) rfl dX10_takings_3 ?_
  refine ya_sub [(0, .ref (X.2.1 + a0)), (1, .int v1), (2, .int v2), (3, .int 0), (4, .int 0)] [2, 3, 4, 1, 0] rfl ?_
  refine w_X10_takings_L5 hG h_a0  ya_F _ _ h
set_option maxRecDepth 20000 in
theorem w_X10_richestDay_L4 {X : ya_X} {G : ya_G} {a0 : Nat} {v1 : Int32} {d : ya_D} {rr : Int32} (hG : ya_Bk ya_sh ya_ln G 0) (h_a0 : ya_Bk shX10 lnX10 G a0) : ∀ (n : Nat) (v2 : Int32) (v3 : Int32), f_X10_richestDay_L4 a0 v1 d n v2 v3 = some rr → ya_E X Y_X10_richestDay (ya_M X (some (.int rr), G, d) 0 0) 4 [(0, .ref (X.2.1 + a0)), (1, .int v1), (2, .int v2), (3, .int v3)] [] G d 0 0 := by
  intro n
  induction n with
  | zero => intro v2 v3 h; cases h
  | succ n ih =>
    intro v2 v3 h
    rw [f_X10_richestDay_L4] at h
    refine ya_iload_n 3 rfl dX10_richestDay_4 ?_
    refine ya_bipush 20 (by decide) dX10_richestDay_5 ?_
    refine ya_icmp_ge 33 (by decide) dX10_richestDay_7 (fun c => ?_) (fun c => ?_)
    · replace h := ya_itet h c
      refine ya_iload_n 2 rfl dX10_richestDay_33 ?_
      cases h
      exact ya_iret rfl rfl rfl rfl rfl (Nat.le_refl _) dX10_richestDay_34
    · replace h := ya_itef h c
      refine ya_aload_n 0 rfl dX10_richestDay_10 ?_
      refine ya_iload_n 1 rfl dX10_richestDay_11 ?_
      refine ya_iload_n 3 rfl dX10_richestDay_12 ?_
      obtain ⟨x13, e13, h⟩ := ya_ob h
      refine ya_callVi (S := []) (c_X10_takings hG h_a0 e13) m_X10_takings ⟨rfl, rfl⟩ ml_X10_103 rfl ⟨Nat.le_of_ble_eq_true rfl, Nat.le_of_ble_eq_true rfl⟩ (Nat.le_of_ble_eq_true rfl) (h_a0.lt 0 (by decide)) (h_a0.o 0 rfl) (by decide) rfl rfl ⟨Nat.le_refl _, Nat.le_refl _⟩ dX10_richestDay_13 rfl ?_
      refine ya_aload_n 0 rfl dX10_richestDay_16 ?_
      refine ya_iload_n 1 rfl dX10_richestDay_17 ?_
      refine ya_iload_n 2 rfl dX10_richestDay_18 ?_
      obtain ⟨x19, e19, h⟩ := ya_ob h
      refine ya_callVi (S := [.int x13]) (c_X10_takings hG h_a0 e19) m_X10_takings ⟨rfl, rfl⟩ ml_X10_103 rfl ⟨Nat.le_of_ble_eq_true rfl, Nat.le_of_ble_eq_true rfl⟩ (Nat.le_of_ble_eq_true rfl) (h_a0.lt 0 (by decide)) (h_a0.o 0 rfl) (by decide) rfl rfl ⟨Nat.le_refl _, Nat.le_refl _⟩ dX10_richestDay_19 rfl ?_
      refine ya_j1_s h (fun v2_27 => ya_E X Y_X10_richestDay (ya_M X (some (.int rr), G, d) 0 0) 27 [(0, .ref (X.2.1 + a0)), (1, .int v1), (2, .int v2_27), (3, .int v3)] [] G d 0 0) (fun v2_27 h => ?_) (fun k27 hk27 h => ?_)
      · refine ya_iinc (v3 + 1) rfl 3 rfl [(3, .int (v3 + 1)), (0, .ref (X.2.1 + a0)), (1, .int v1), (2, .int v2_27)] (by decide) rfl dX10_richestDay_27 ?_
        refine ya_goto 4 (by decide) dX10_richestDay_30 ?_
        refine ya_sub [(0, .ref (X.2.1 + a0)), (1, .int v1), (2, .int v2_27), (3, .int (v3 + 1))] [1, 2, 3, 0] rfl ?_
        exact ih _ _ h
      · refine ya_icmp_le 27 (by decide) dX10_richestDay_22 (fun c => ?_) (fun c => ?_)
        · replace h := ya_itet h c
          exact hk27 _ h
        · replace h := ya_itef h c
          refine ya_iload_n 3 rfl dX10_richestDay_25 ?_
          refine ya_istore_n [(2, .int v3), (0, .ref (X.2.1 + a0)), (1, .int v1), (3, .int v3)] (by decide) rfl dX10_richestDay_26 ?_
          refine ya_sub [(0, .ref (X.2.1 + a0)), (1, .int v1), (2, .int v3), (3, .int v3)] [1, 2, 0, 3] rfl ?_
          exact hk27 _ h
set_option maxRecDepth 20000 in
theorem c_X10_richestDay {X : ya_X} {G : ya_G} {a0 : Nat} {v1 : Int32} {d : ya_D} {rr : Int32} (hG : ya_Bk ya_sh ya_ln G 0) (h_a0 : ya_Bk shX10 lnX10 G a0) (h : f_X10_richestDay a0 v1 d = some rr) : ya_Ct X yX10_richestDay Y_X10_richestDay [.ref (X.2.1 + a0), .int v1] G d (some (.int rr), G, d) := by
  refine ya_ct (by decide +kernel) rfl rfl (Nat.le_of_ble_eq_true rfl) ?_
  unfold f_X10_richestDay at h
  show ya_E X Y_X10_richestDay (ya_M X (some (.int rr), G, d) 0 0) 0 [(0, .ref (X.2.1 + a0)), (1, .int v1)] [] G d 0 0
  refine ya_iconst 0 (by decide) dX10_richestDay_0 ?_
  refine ya_istore_n [(2, .int 0), (0, .ref (X.2.1 + a0)), (1, .int v1)] (by decide) rfl dX10_richestDay_1 ?_
  refine ya_iconst 1 (by decide) dX10_richestDay_2 ?_
  refine ya_istore_n [(3, .int 1), (2, .int 0), (0, .ref (X.2.1 + a0)), (1, .int v1)] (by decide) rfl dX10_richestDay_3 ?_
  refine ya_sub [(0, .ref (X.2.1 + a0)), (1, .int v1), (2, .int 0), (3, .int 1)] [2, 3, 1, 0] rfl ?_
  refine w_X10_richestDay_L4 hG h_a0  ya_F _ _ h
set_option maxRecDepth 20000 in
theorem w_X10_daysWithoutSale_L18 {X : ya_X} {G : ya_G} {a0 : Nat} {a1 : Nat} {v2 : Int32} {v3 : Int32} {d : ya_D} {rr : Int32} {e52 : Int32 → Option Int32} (hG : ya_Bk ya_sh ya_ln G 0) (h_a0 : ya_Bk shX10 lnX10 G a0) (h_a1 : ya_Bk shX2 lnX2 G a1) (he52 : ∀ (v4 : Int32), e52 v4 = some rr → ya_E X Y_X10_daysWithoutSale (ya_M X (some (.int rr), G, d) 0 0) 52 [(0, .ref (X.2.1 + a0)), (1, .ref (X.2.1 + a1)), (2, .int v2), (3, .int v3), (4, .int v4)] [] G d 0 0) : ∀ (n : Nat) (v4 : Int32) (v5 : Int32), f_X10_daysWithoutSale_L18 a0 a1 v2 v3 d e52 n v4 v5 = some rr → ya_E X Y_X10_daysWithoutSale (ya_M X (some (.int rr), G, d) 0 0) 18 [(0, .ref (X.2.1 + a0)), (1, .ref (X.2.1 + a1)), (2, .int v2), (3, .int v3), (4, .int v4), (5, .int v5)] [] G d 0 0 := by
  intro n
  induction n with
  | zero => intro v4 v5 h; cases h
  | succ n ih =>
    intro v4 v5 h
    rw [f_X10_daysWithoutSale_L18] at h
    refine ya_iload 5 rfl dX10_daysWithoutSale_18 ?_
    refine ya_aload_n 1 rfl dX10_daysWithoutSale_20 ?_
    refine ya_getR fo_X10_80 (h_a1.o 0 rfl) (h_a1.lt 0 (by decide)) (h_a1.l 4 rfl) dX10_daysWithoutSale_21 ?_
    refine ya_getI fo_X10_84 (h_a1.o 1 rfl) (h_a1.lt 1 (by decide)) dX10_daysWithoutSale_24 ?_
    refine ya_icmp_ge 52 (by decide) dX10_daysWithoutSale_27 (fun c => ?_) (fun c => ?_)
    · replace h := ya_itet h c
      refine ya_sub [(0, .ref (X.2.1 + a0)), (1, .ref (X.2.1 + a1)), (2, .int v2), (3, .int v3), (4, .int v4)] [0, 1, 2, 3, 4] rfl ?_
      exact he52 _ h
    · replace h := ya_itef h c
      refine ya_iload 4 rfl dX10_daysWithoutSale_30 ?_
      refine ya_aload_n 0 rfl dX10_daysWithoutSale_32 ?_
      refine ya_getR fo_X10_18 (h_a0.o 0 rfl) (h_a0.lt 0 (by decide)) (h_a0.l 2 rfl) dX10_daysWithoutSale_33 ?_
      refine ya_iload 5 rfl dX10_daysWithoutSale_36 ?_
      refine ya_iload_n 3 rfl dX10_daysWithoutSale_38 ?_
      obtain ⟨x39, e39, h⟩ := ya_ob h
      refine ya_callSNi (S := [.ref (X.2.1 + (a0 + 3)), .int v4]) (c_X11_cell hG e39) m_X11_cell ⟨rfl, rfl⟩ 14 rfl rfl ⟨Nat.le_of_ble_eq_true rfl, Nat.le_of_ble_eq_true rfl⟩ (Nat.le_of_ble_eq_true rfl) ⟨Nat.le_refl _, Nat.le_refl _⟩ dX10_daysWithoutSale_39 rfl ?_
      refine ya_iald (h_a0.s 3 rfl) (h_a0.lt 3 (by decide)) dX10_daysWithoutSale_42 h (fun x42 h => ?_)
      refine ya_iadd dX10_daysWithoutSale_43 ?_
      refine ya_istore [(4, .int (v4 + x42)), (0, .ref (X.2.1 + a0)), (1, .ref (X.2.1 + a1)), (2, .int v2), (3, .int v3), (5, .int v5)] (by decide) rfl dX10_daysWithoutSale_44 ?_
      refine ya_iinc (v5 + 1) rfl 5 rfl [(5, .int (v5 + 1)), (4, .int (v4 + x42)), (0, .ref (X.2.1 + a0)), (1, .ref (X.2.1 + a1)), (2, .int v2), (3, .int v3)] (by decide) rfl dX10_daysWithoutSale_46 ?_
      refine ya_goto 18 (by decide) dX10_daysWithoutSale_49 ?_
      refine ya_sub [(0, .ref (X.2.1 + a0)), (1, .ref (X.2.1 + a1)), (2, .int v2), (3, .int v3), (4, .int (v4 + x42)), (5, .int (v5 + 1))] [2, 3, 4, 5, 1, 0] rfl ?_
      exact ih _ _ h
set_option maxRecDepth 20000 in
theorem w_X10_daysWithoutSale_L4 {X : ya_X} {G : ya_G} {a0 : Nat} {a1 : Nat} {d : ya_D} {rr : Int32} (hG : ya_Bk ya_sh ya_ln G 0) (h_a0 : ya_Bk shX10 lnX10 G a0) (h_a1 : ya_Bk shX2 lnX2 G a1) : ∀ (n : Nat) (v2 : Int32) (v3 : Int32), f_X10_daysWithoutSale_L4 a0 a1 d n v2 v3 = some rr → ya_E X Y_X10_daysWithoutSale (ya_M X (some (.int rr), G, d) 0 0) 4 [(0, .ref (X.2.1 + a0)), (1, .ref (X.2.1 + a1)), (2, .int v2), (3, .int v3)] [] G d 0 0 := by
  intro n
  induction n with
  | zero => intro v2 v3 h; cases h
  | succ n ih =>
    intro v2 v3 h
    rw [f_X10_daysWithoutSale_L4] at h
    refine ya_iload_n 3 rfl dX10_daysWithoutSale_4 ?_
    refine ya_aload_n 1 rfl dX10_daysWithoutSale_5 ?_
    refine ya_getI fo_X10_61 (h_a1.o 0 rfl) (h_a1.lt 0 (by decide)) dX10_daysWithoutSale_6 ?_
    refine ya_icmp_ge 66 (by decide) dX10_daysWithoutSale_9 (fun c => ?_) (fun c => ?_)
    · replace h := ya_itet h c
      refine ya_iload_n 2 rfl dX10_daysWithoutSale_66 ?_
      cases h
      exact ya_iret rfl rfl rfl rfl rfl (Nat.le_refl _) dX10_daysWithoutSale_67
    · replace h := ya_itef h c
      refine ya_iconst 0 (by decide) dX10_daysWithoutSale_12 ?_
      refine ya_istore [(4, .int 0), (0, .ref (X.2.1 + a0)), (1, .ref (X.2.1 + a1)), (2, .int v2), (3, .int v3)] (by decide) rfl dX10_daysWithoutSale_13 ?_
      refine ya_iconst 0 (by decide) dX10_daysWithoutSale_15 ?_
      refine ya_istore [(5, .int 0), (4, .int 0), (0, .ref (X.2.1 + a0)), (1, .ref (X.2.1 + a1)), (2, .int v2), (3, .int v3)] (by decide) rfl dX10_daysWithoutSale_16 ?_
      refine ya_sub [(0, .ref (X.2.1 + a0)), (1, .ref (X.2.1 + a1)), (2, .int v2), (3, .int v3), (4, .int 0), (5, .int 0)] [2, 3, 4, 5, 1, 0] rfl ?_
      refine w_X10_daysWithoutSale_L18 hG h_a0 h_a1 (fun v4_52 h => ?_) ya_F _ _ h
      refine ya_iload 4 rfl dX10_daysWithoutSale_52 ?_
      refine ya_j1_s h (fun v2_60 => ya_E X Y_X10_daysWithoutSale (ya_M X (some (.int rr), G, d) 0 0) 60 [(0, .ref (X.2.1 + a0)), (1, .ref (X.2.1 + a1)), (2, .int v2_60), (3, .int v3)] [] G d 0 0) (fun v2_60 h => ?_) (fun k60 hk60 h => ?_)
      · refine ya_iinc (v3 + 1) rfl 3 rfl [(3, .int (v3 + 1)), (0, .ref (X.2.1 + a0)), (1, .ref (X.2.1 + a1)), (2, .int v2_60)] (by decide) rfl dX10_daysWithoutSale_60 ?_
        refine ya_goto 4 (by decide) dX10_daysWithoutSale_63 ?_
        refine ya_sub [(0, .ref (X.2.1 + a0)), (1, .ref (X.2.1 + a1)), (2, .int v2_60), (3, .int (v3 + 1))] [1, 2, 3, 0] rfl ?_
        exact ih _ _ h
      · refine ya_ifne 60 (by decide) dX10_daysWithoutSale_54 (fun c => ?_) (fun c => ?_)
        · replace h := ya_itef h c
          refine ya_sub [(0, .ref (X.2.1 + a0)), (1, .ref (X.2.1 + a1)), (2, .int v2), (3, .int v3)] [0, 1, 2, 3] rfl ?_
          exact hk60 _ h
        · replace h := ya_itet h c
          refine ya_iinc (v2 + 1) rfl 2 rfl [(2, .int (v2 + 1)), (0, .ref (X.2.1 + a0)), (1, .ref (X.2.1 + a1)), (3, .int v3), (4, .int v4_52)] (by decide) rfl dX10_daysWithoutSale_57 ?_
          refine ya_sub [(0, .ref (X.2.1 + a0)), (1, .ref (X.2.1 + a1)), (2, .int (v2 + 1)), (3, .int v3)] [1, 2, 0, 3] rfl ?_
          exact hk60 _ h
set_option maxRecDepth 20000 in
theorem c_X10_daysWithoutSale {X : ya_X} {G : ya_G} {a0 : Nat} {a1 : Nat} {d : ya_D} {rr : Int32} (hG : ya_Bk ya_sh ya_ln G 0) (h_a0 : ya_Bk shX10 lnX10 G a0) (h_a1 : ya_Bk shX2 lnX2 G a1) (h : f_X10_daysWithoutSale a0 a1 d = some rr) : ya_Ct X yX10_daysWithoutSale Y_X10_daysWithoutSale [.ref (X.2.1 + a0), .ref (X.2.1 + a1)] G d (some (.int rr), G, d) := by
  refine ya_ct (by decide +kernel) rfl rfl (Nat.le_of_ble_eq_true rfl) ?_
  unfold f_X10_daysWithoutSale at h
  show ya_E X Y_X10_daysWithoutSale (ya_M X (some (.int rr), G, d) 0 0) 0 [(0, .ref (X.2.1 + a0)), (1, .ref (X.2.1 + a1))] [] G d 0 0
  refine ya_iconst 0 (by decide) dX10_daysWithoutSale_0 ?_
  refine ya_istore_n [(2, .int 0), (0, .ref (X.2.1 + a0)), (1, .ref (X.2.1 + a1))] (by decide) rfl dX10_daysWithoutSale_1 ?_
  refine ya_iconst 0 (by decide) dX10_daysWithoutSale_2 ?_
  refine ya_istore_n [(3, .int 0), (2, .int 0), (0, .ref (X.2.1 + a0)), (1, .ref (X.2.1 + a1))] (by decide) rfl dX10_daysWithoutSale_3 ?_
  refine ya_sub [(0, .ref (X.2.1 + a0)), (1, .ref (X.2.1 + a1)), (2, .int 0), (3, .int 0)] [2, 3, 1, 0] rfl ?_
  refine w_X10_daysWithoutSale_L4 hG h_a0 h_a1  ya_F _ _ h
set_option maxRecDepth 20000 in
theorem c_X11_feed {X : ya_X} {G : ya_G} {v1 : Int32} {v2 : Int32} {v3 : Int32} {v4 : Int32} {v5 : Int32} {d : ya_D} {rr : (Int32 × ya_D)} (hG : ya_Bk ya_sh ya_ln G 0) (h : f_X11_feed v1 v2 v3 v4 v5 d = some rr) : ya_Ct X yX11_feed Y_X11_feed [.ref (X.2.1 + 0), .int v1, .int v2, .int v3, .int v4, .int v5] G d (some (.int rr.1), G, rr.2) := by
  refine ya_ct (by decide +kernel) rfl rfl (Nat.le_of_ble_eq_true rfl) ?_
  unfold f_X11_feed at h
  show ya_E X Y_X11_feed (ya_M X (some (.int rr.1), G, rr.2) 0 0) 0 [(0, .ref (X.2.1 + 0)), (1, .int v1), (2, .int v2), (3, .int v3), (4, .int v4), (5, .int v5)] [] G d 0 0
  refine ya_aload_n 0 rfl dX11_feed_0 ?_
  refine ya_getR fo_X11_10 (hG.o0 0 rfl) (hG.lt0 0 (by decide)) (hG.l0 1 rfl) dX11_feed_1 ?_
  refine ya_getI fo_X11_68 (hG.o0 1 rfl) (hG.lt0 1 (by decide)) dX11_feed_4 ?_
  refine ya_bipush 20 (by decide) dX11_feed_7 ?_
  refine ya_iadd dX11_feed_9 ?_
  refine ya_sipush 2000 (by decide) dX11_feed_10 ?_
  refine ya_icmp_le 18 (by decide) dX11_feed_13 (fun c => ?_) (fun c => ?_)
  · replace h := ya_itet h c
    refine ya_aload_n 0 rfl dX11_feed_18 ?_
    refine ya_getR fo_X11_10 (hG.o0 0 rfl) (hG.lt0 0 (by decide)) (hG.l0 1 rfl) dX11_feed_19 ?_
    refine ya_iload_n 1 rfl dX11_feed_22 ?_
    obtain ⟨d23, e23, h⟩ := ya_ob h
    refine ya_callVv (S := []) (c_X7_addFour hG e23) m_X7_addFour ⟨rfl, rfl⟩ ml_X11_72 rfl ⟨Nat.le_of_ble_eq_true rfl, Nat.le_of_ble_eq_true rfl⟩ (Nat.le_of_ble_eq_true rfl) (hG.lt0 1 (by decide)) (hG.o0 1 rfl) (by decide) rfl rfl ⟨Nat.le_refl _, Nat.le_refl _⟩ dX11_feed_23 rfl ?_
    refine ya_aload_n 0 rfl dX11_feed_26 ?_
    refine ya_getR fo_X11_10 (hG.o0 0 rfl) (hG.lt0 0 (by decide)) (hG.l0 1 rfl) dX11_feed_27 ?_
    refine ya_iload_n 2 rfl dX11_feed_30 ?_
    obtain ⟨d31, e31, h⟩ := ya_ob h
    refine ya_callVv (S := []) (c_X7_addFour hG e31) m_X7_addFour ⟨rfl, rfl⟩ ml_X11_72 rfl ⟨Nat.le_of_ble_eq_true rfl, Nat.le_of_ble_eq_true rfl⟩ (Nat.le_of_ble_eq_true rfl) (hG.lt0 1 (by decide)) (hG.o0 1 rfl) (by decide) rfl rfl ⟨Nat.le_refl _, Nat.le_refl _⟩ dX11_feed_31 rfl ?_
    refine ya_aload_n 0 rfl dX11_feed_34 ?_
    refine ya_getR fo_X11_10 (hG.o0 0 rfl) (hG.lt0 0 (by decide)) (hG.l0 1 rfl) dX11_feed_35 ?_
    refine ya_iload_n 3 rfl dX11_feed_38 ?_
    obtain ⟨d39, e39, h⟩ := ya_ob h
    refine ya_callVv (S := []) (c_X7_addFour hG e39) m_X7_addFour ⟨rfl, rfl⟩ ml_X11_72 rfl ⟨Nat.le_of_ble_eq_true rfl, Nat.le_of_ble_eq_true rfl⟩ (Nat.le_of_ble_eq_true rfl) (hG.lt0 1 (by decide)) (hG.o0 1 rfl) (by decide) rfl rfl ⟨Nat.le_refl _, Nat.le_refl _⟩ dX11_feed_39 rfl ?_
    refine ya_aload_n 0 rfl dX11_feed_42 ?_
    refine ya_getR fo_X11_10 (hG.o0 0 rfl) (hG.lt0 0 (by decide)) (hG.l0 1 rfl) dX11_feed_43 ?_
    refine ya_iload 4 rfl dX11_feed_46 ?_
    obtain ⟨d48, e48, h⟩ := ya_ob h
    refine ya_callVv (S := []) (c_X7_addFour hG e48) m_X7_addFour ⟨rfl, rfl⟩ ml_X11_72 rfl ⟨Nat.le_of_ble_eq_true rfl, Nat.le_of_ble_eq_true rfl⟩ (Nat.le_of_ble_eq_true rfl) (hG.lt0 1 (by decide)) (hG.o0 1 rfl) (by decide) rfl rfl ⟨Nat.le_refl _, Nat.le_refl _⟩ dX11_feed_48 rfl ?_
    refine ya_aload_n 0 rfl dX11_feed_51 ?_
    refine ya_getR fo_X11_10 (hG.o0 0 rfl) (hG.lt0 0 (by decide)) (hG.l0 1 rfl) dX11_feed_52 ?_
    refine ya_iload 5 rfl dX11_feed_55 ?_
    obtain ⟨d57, e57, h⟩ := ya_ob h
    refine ya_callVv (S := []) (c_X7_addFour hG e57) m_X7_addFour ⟨rfl, rfl⟩ ml_X11_72 rfl ⟨Nat.le_of_ble_eq_true rfl, Nat.le_of_ble_eq_true rfl⟩ (Nat.le_of_ble_eq_true rfl) (hG.lt0 1 (by decide)) (hG.o0 1 rfl) (by decide) rfl rfl ⟨Nat.le_refl _, Nat.le_refl _⟩ dX11_feed_57 rfl ?_
    refine ya_aload_n 0 rfl dX11_feed_60 ?_
    refine ya_getR fo_X11_10 (hG.o0 0 rfl) (hG.lt0 0 (by decide)) (hG.l0 1 rfl) dX11_feed_61 ?_
    refine ya_getI fo_X11_68 (hG.o0 1 rfl) (hG.lt0 1 (by decide)) dX11_feed_64 ?_
    cases h
    exact ya_iret rfl rfl rfl rfl rfl (Nat.le_refl _) dX11_feed_67
  · replace h := ya_itef h c
    refine ya_iconst (-1) (by decide) dX11_feed_16 ?_
    cases h
    exact ya_iret rfl rfl rfl rfl rfl (Nat.le_refl _) dX11_feed_17
set_option maxRecDepth 20000 in
theorem c_X11_end {X : ya_X} {G : ya_G} {v1 : Int32} {d : ya_D} {rr : (Int32 × ya_D)} (hG : ya_Bk ya_sh ya_ln G 0) (h : f_X11_end v1 d = some rr) : ya_Ct X yX11_end Y_X11_end [.ref (X.2.1 + 0), .int v1] G d (some (.int rr.1), G, rr.2) := by
  refine ya_ct (by decide +kernel) rfl rfl (Nat.le_of_ble_eq_true rfl) ?_
  unfold f_X11_end at h
  show ya_E X Y_X11_end (ya_M X (some (.int rr.1), G, rr.2) 0 0) 0 [(0, .ref (X.2.1 + 0)), (1, .int v1)] [] G d 0 0
  refine ya_iload_n 1 rfl dX11_end_0 ?_
  refine ya_iflt 15 (by decide) dX11_end_1 (fun c => ?_) (fun c => ?_)
  · replace h := ya_itet h c
    refine ya_iconst (-1) (by decide) dX11_end_15 ?_
    cases h
    exact ya_iret rfl rfl rfl rfl rfl (Nat.le_refl _) dX11_end_16
  · replace h := ya_itef h c
    refine ya_iload_n 1 rfl dX11_end_4 ?_
    refine ya_aload_n 0 rfl dX11_end_5 ?_
    refine ya_getR fo_X11_10 (hG.o0 0 rfl) (hG.lt0 0 (by decide)) (hG.l0 1 rfl) dX11_end_6 ?_
    refine ya_getI fo_X11_68 (hG.o0 1 rfl) (hG.lt0 1 (by decide)) dX11_end_9 ?_
    refine ya_icmp_le 17 (by decide) dX11_end_12 (fun c => ?_) (fun c => ?_)
    · replace h := ya_itet h c
      refine ya_aload_n 0 rfl dX11_end_17 ?_
      refine ya_getR fo_X11_10 (hG.o0 0 rfl) (hG.lt0 0 (by decide)) (hG.l0 1 rfl) dX11_end_18 ?_
      refine ya_iload_n 1 rfl dX11_end_21 ?_
      refine ya_putIb fo_X11_68 (hG.o0 1 rfl) (hG.lt0 1 (by decide)) .int pf_X7_1 rfl rfl dX11_end_22 h (fun d22 h => ?_)
      refine ya_iload_n 1 rfl dX11_end_25 ?_
      cases h
      exact ya_iret rfl rfl rfl rfl rfl (Nat.le_refl _) dX11_end_26
    · replace h := ya_itef h c
      refine ya_iconst (-1) (by decide) dX11_end_15 ?_
      cases h
      exact ya_iret rfl rfl rfl rfl rfl (Nat.le_refl _) dX11_end_16
