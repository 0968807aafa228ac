set_option maxRecDepth 20000 in
theorem c_X12_buyer {X : ya_X} {G : ya_G} {v1 : Int32} {v2 : Int32} {d : ya_D} {rr : (Int32 × ya_D)} (hG : ya_Bk ya_sh ya_ln G 0) (h : f_X12_buyer v1 v2 d = some rr) : ya_Ct X yX12_buyer Y_X12_buyer [.ref (X.2.1 + 83), .int v1, .int v2] G d (some (.int rr.1), G, rr.2) := by
  refine ya_ct (by decide +kernel) rfl rfl (Nat.le_of_ble_eq_true rfl) ?_
  unfold f_X12_buyer at h
  show ya_E X Y_X12_buyer (ya_M X (some (.int rr.1), G, rr.2) 0 0) 0 [(0, .ref (X.2.1 + 83)), (1, .int v1), (2, .int v2)] [] G d 0 0
  refine ya_aload_n 0 rfl dX12_buyer_0 ?_
  refine ya_iload_n 1 rfl dX12_buyer_1 ?_
  obtain ⟨x2, e2, h⟩ := ya_ob h
  refine ya_callVi (S := []) (c_X12_isBuyer hG e2) m_X12_isBuyer ⟨rfl, rfl⟩ ml_X12_327 rfl ⟨Nat.le_of_ble_eq_true rfl, Nat.le_of_ble_eq_true rfl⟩ (Nat.le_of_ble_eq_true rfl) (hG.lt0 83 (by decide)) (hG.o0 83 rfl) (by decide) rfl rfl ⟨Nat.le_refl _, Nat.le_refl _⟩ dX12_buyer_2 rfl ?_
  refine ya_j0_s h (ya_E X Y_X12_buyer (ya_M X (some (.int rr.1), G, rr.2) 0 0) 20 [] [] G d 0 0) (fun h => ?_) (fun k20 hk20 h => ?_)
  · refine ya_bipush (-2) (by decide) dX12_buyer_20 ?_
    cases h
    exact ya_iret rfl rfl rfl rfl rfl (Nat.le_refl _) dX12_buyer_22
  · refine ya_ifeq 20 (by decide) dX12_buyer_5 (fun c => ?_) (fun c => ?_)
    · replace h := ya_itet h c
      refine ya_sub [] [] rfl ?_
      exact hk20  h
    · replace h := ya_itef h c
      refine ya_iload_n 2 rfl dX12_buyer_8 ?_
      refine ya_i2l dX12_buyer_9 ?_
      refine ya_lconst 0 rfl dX12_buyer_10 ?_
      refine ya_ldc2 2 kc_X12_92 dX12_buyer_11 ?_
      obtain ⟨x14, e14, h⟩ := ya_ob h
      refine ya_callSi (S := []) (c_X12_in hG e14) m_X12_in ⟨rfl, rfl⟩ ml_X12_94 rfl ⟨Nat.le_of_ble_eq_true rfl, Nat.le_of_ble_eq_true rfl⟩ (Nat.le_of_ble_eq_true rfl) ⟨Nat.le_refl _, Nat.le_refl _⟩ dX12_buyer_14 rfl ?_
      refine ya_ifne 23 (by decide) dX12_buyer_17 (fun c => ?_) (fun c => ?_)
      · replace h := ya_itef h c
        refine ya_aload_n 0 rfl dX12_buyer_23 ?_
        refine ya_lconst 1 rfl dX12_buyer_24 ?_
        obtain ⟨d25, e25, h⟩ := ya_ob h
        refine ya_callVv (S := []) (c_X12_runs hG e25) m_X12_runs ⟨rfl, rfl⟩ ml_X12_311 rfl ⟨Nat.le_of_ble_eq_true rfl, Nat.le_of_ble_eq_true rfl⟩ (Nat.le_of_ble_eq_true rfl) (hG.lt0 83 (by decide)) (hG.o0 83 rfl) (by decide) rfl rfl ⟨Nat.le_refl _, Nat.le_refl _⟩ dX12_buyer_25 rfl ?_
        refine ya_iload_n 2 rfl dX12_buyer_28 ?_
        refine ya_ifne 41 (by decide) dX12_buyer_29 (fun c => ?_) (fun c => ?_)
        · replace h := ya_itef h c
          refine ya_iload_n 2 rfl dX12_buyer_41 ?_
          refine ya_iconst 1 (by decide) dX12_buyer_42 ?_
          refine ya_icmp_ne 55 (by decide) dX12_buyer_43 (fun c => ?_) (fun c => ?_)
          · replace h := ya_itef h c
            refine ya_aload_n 0 rfl dX12_buyer_55 ?_
            refine ya_iload_n 1 rfl dX12_buyer_56 ?_
            refine ya_iconst 1 (by decide) dX12_buyer_57 ?_
            obtain ⟨x58, e58, h⟩ := ya_ob h
            refine ya_callVi (S := []) (c_X12_of hG e58) m_X12_of ⟨rfl, rfl⟩ ml_X12_260 rfl ⟨Nat.le_of_ble_eq_true rfl, Nat.le_of_ble_eq_true rfl⟩ (Nat.le_of_ble_eq_true rfl) (hG.lt0 83 (by decide)) (hG.o0 83 rfl) (by decide) rfl rfl ⟨Nat.le_refl _, Nat.le_refl _⟩ dX12_buyer_58 rfl ?_
            refine ya_aload_n 0 rfl dX12_buyer_61 ?_
            refine ya_iload_n 1 rfl dX12_buyer_62 ?_
            refine ya_iconst 4 (by decide) dX12_buyer_63 ?_
            obtain ⟨x64, e64, h⟩ := ya_ob h
            refine ya_callVi (S := [.int x58]) (c_X12_of hG e64) m_X12_of ⟨rfl, rfl⟩ ml_X12_260 rfl ⟨Nat.le_of_ble_eq_true rfl, Nat.le_of_ble_eq_true rfl⟩ (Nat.le_of_ble_eq_true rfl) (hG.lt0 83 (by decide)) (hG.o0 83 rfl) (by decide) rfl rfl ⟨Nat.le_refl _, Nat.le_refl _⟩ dX12_buyer_64 rfl ?_
            refine ya_aload_n 0 rfl dX12_buyer_67 ?_
            refine ya_iload_n 1 rfl dX12_buyer_68 ?_
            refine ya_iconst 3 (by decide) dX12_buyer_69 ?_
            obtain ⟨x70, e70, h⟩ := ya_ob h
            refine ya_callVi (S := [.int x64, .int x58]) (c_X12_of hG e70) m_X12_of ⟨rfl, rfl⟩ ml_X12_260 rfl ⟨Nat.le_of_ble_eq_true rfl, Nat.le_of_ble_eq_true rfl⟩ (Nat.le_of_ble_eq_true rfl) (hG.lt0 83 (by decide)) (hG.o0 83 rfl) (by decide) rfl rfl ⟨Nat.le_refl _, Nat.le_refl _⟩ dX12_buyer_70 rfl ?_
            refine ya_isub dX12_buyer_73 ?_
            refine ya_iconst 1 (by decide) dX12_buyer_74 ?_
            refine ya_iadd dX12_buyer_75 ?_
            refine ya_imul dX12_buyer_76 ?_
            refine ya_aload_n 0 rfl dX12_buyer_77 ?_
            refine ya_getR fo_X12_61 (hG.o0 83 rfl) (hG.lt0 83 (by decide)) (hG.l0 97 rfl) dX12_buyer_78 ?_
            refine ya_iload_n 1 rfl dX12_buyer_81 ?_
            refine ya_iald (hG.s0 99 rfl) (hG.lt0 99 (by decide)) dX12_buyer_82 h (fun x82 h => ?_)
            refine ya_isub dX12_buyer_83 ?_
            cases h
            exact ya_iret rfl rfl rfl rfl rfl (Nat.le_refl _) dX12_buyer_84
          · replace h := ya_itet h c
            refine ya_aload_n 0 rfl dX12_buyer_46 ?_
            refine ya_getR fo_X12_61 (hG.o0 83 rfl) (hG.lt0 83 (by decide)) (hG.l0 97 rfl) dX12_buyer_47 ?_
            refine ya_iload_n 1 rfl dX12_buyer_50 ?_
            refine ya_iald (hG.s0 99 rfl) (hG.lt0 99 (by decide)) dX12_buyer_51 h (fun x51 h => ?_)
            refine ya_goto 84 (by decide) dX12_buyer_52 ?_
            cases h
            exact ya_iret rfl rfl rfl rfl rfl (Nat.le_refl _) dX12_buyer_84
        · replace h := ya_itet h c
          refine ya_aload_n 0 rfl dX12_buyer_32 ?_
          refine ya_getR fo_X12_58 (hG.o0 83 rfl) (hG.lt0 83 (by decide)) (hG.l0 96 rfl) dX12_buyer_33 ?_
          refine ya_iload_n 1 rfl dX12_buyer_36 ?_
          refine ya_iald (hG.s0 98 rfl) (hG.lt0 98 (by decide)) dX12_buyer_37 h (fun x37 h => ?_)
          refine ya_goto 84 (by decide) dX12_buyer_38 ?_
          cases h
          exact ya_iret rfl rfl rfl rfl rfl (Nat.le_refl _) dX12_buyer_84
      · replace h := ya_itet h c
        refine ya_sub [] [] rfl ?_
        exact hk20  h
set_option maxRecDepth 20000 in
theorem w_X12_moneyOn_L4 {X : ya_X} {G : ya_G} {v1 : Int32} {d : ya_D} {rr : Int32} (hG : ya_Bk ya_sh ya_ln G 0) : ∀ (n : Nat) (v2 : Int32) (v3 : Int32), f_X12_moneyOn_L4 v1 d n v2 v3 = some rr → ya_E X Y_X12_moneyOn (ya_M X (some (.int rr), G, d) 0 0) 4 [(0, .ref (X.2.1 + 83)), (1, .int v1), (2, .int v2), (3, .int v3)] [] G d 0 0 := by
  intro n
  induction n with
  | zero => intro v2 v3 h; cases h
  | succ n ih =>
    intro v2 v3 h
    rw [f_X12_moneyOn_L4] at h
    refine ya_iload_n 3 rfl dX12_moneyOn_4 ?_
    refine ya_aload_n 0 rfl dX12_moneyOn_5 ?_
    refine ya_getR fo_X12_9 (hG.o0 83 rfl) (hG.lt0 83 (by decide)) (hG.l0 82 rfl) dX12_moneyOn_6 ?_
    refine ya_iconst 2 (by decide) dX12_moneyOn_9 ?_
    refine ya_iald (hG.s0 84 rfl) (hG.lt0 84 (by decide)) dX12_moneyOn_10 h (fun x10 h => ?_)
    refine ya_icmp_ge 33 (by decide) dX12_moneyOn_11 (fun c => ?_) (fun c => ?_)
    · replace h := ya_itet h c
      refine ya_iload_n 2 rfl dX12_moneyOn_33 ?_
      cases h
      exact ya_iret rfl rfl rfl rfl rfl (Nat.le_refl _) dX12_moneyOn_34
    · replace h := ya_itef h c
      refine ya_iload_n 2 rfl dX12_moneyOn_14 ?_
      refine ya_aload_n 0 rfl dX12_moneyOn_15 ?_
      refine ya_getR fo_X12_46 (hG.o0 83 rfl) (hG.lt0 83 (by decide)) (hG.l0 92 rfl) dX12_moneyOn_16 ?_
      refine ya_iload_n 3 rfl dX12_moneyOn_19 ?_
      refine ya_iload_n 1 rfl dX12_moneyOn_20 ?_
      obtain ⟨x21, e21, h⟩ := ya_ob h
      refine ya_callSi (S := [.ref (X.2.1 + 94), .int v2]) (c_X12_at hG e21) m_X12_at ⟨rfl, rfl⟩ ml_X12_105 rfl ⟨Nat.le_of_ble_eq_true rfl, Nat.le_of_ble_eq_true rfl⟩ (Nat.le_of_ble_eq_true rfl) ⟨Nat.le_refl _, Nat.le_refl _⟩ dX12_moneyOn_21 rfl ?_
      refine ya_iald (hG.s0 94 rfl) (hG.lt0 94 (by decide)) dX12_moneyOn_24 h (fun x24 h => ?_)
      refine ya_iadd dX12_moneyOn_25 ?_
      refine ya_istore_n [(2, .int (v2 + x24)), (0, .ref (X.2.1 + 83)), (1, .int v1), (3, .int v3)] (by decide) rfl dX12_moneyOn_26 ?_
      refine ya_iinc (v3 + 1) rfl 3 rfl [(3, .int (v3 + 1)), (2, .int (v2 + x24)), (0, .ref (X.2.1 + 83)), (1, .int v1)] (by decide) rfl dX12_moneyOn_27 ?_
      refine ya_goto 4 (by decide) dX12_moneyOn_30 ?_
      refine ya_sub [(0, .ref (X.2.1 + 83)), (1, .int v1), (2, .int (v2 + x24)), (3, .int (v3 + 1))] [2, 3, 1, 0] rfl ?_
      exact ih _ _ h
set_option maxRecDepth 20000 in
theorem c_X12_moneyOn {X : ya_X} {G : ya_G} {v1 : Int32} {d : ya_D} {rr : Int32} (hG : ya_Bk ya_sh ya_ln G 0) (h : f_X12_moneyOn v1 d = some rr) : ya_Ct X yX12_moneyOn Y_X12_moneyOn [.ref (X.2.1 + 83), .int v1] G d (some (.int rr), G, d) := by
  refine ya_ct (by decide +kernel) rfl rfl (Nat.le_of_ble_eq_true rfl) ?_
  unfold f_X12_moneyOn at h
  show ya_E X Y_X12_moneyOn (ya_M X (some (.int rr), G, d) 0 0) 0 [(0, .ref (X.2.1 + 83)), (1, .int v1)] [] G d 0 0
  refine ya_iconst 0 (by decide) dX12_moneyOn_0 ?_
  refine ya_istore_n [(2, .int 0), (0, .ref (X.2.1 + 83)), (1, .int v1)] (by decide) rfl dX12_moneyOn_1 ?_
  refine ya_iconst 0 (by decide) dX12_moneyOn_2 ?_
  refine ya_istore_n [(3, .int 0), (2, .int 0), (0, .ref (X.2.1 + 83)), (1, .int v1)] (by decide) rfl dX12_moneyOn_3 ?_
  refine ya_sub [(0, .ref (X.2.1 + 83)), (1, .int v1), (2, .int 0), (3, .int 0)] [2, 3, 1, 0] rfl ?_
  refine w_X12_moneyOn_L4 hG  ya_F _ _ h
set_option maxRecDepth 20000 in
theorem w_X12_soldOn_L4 {X : ya_X} {G : ya_G} {v1 : Int32} {d : ya_D} {rr : Int32} (hG : ya_Bk ya_sh ya_ln G 0) : ∀ (n : Nat) (v2 : Int32) (v3 : Int32), f_X12_soldOn_L4 v1 d n v2 v3 = some rr → ya_E X Y_X12_soldOn (ya_M X (some (.int rr), G, d) 0 0) 4 [(0, .ref (X.2.1 + 83)), (1, .int v1), (2, .int v2), (3, .int v3)] [] G d 0 0 := by
  intro n
  induction n with
  | zero => intro v2 v3 h; cases h
  | succ n ih =>
    intro v2 v3 h
    rw [f_X12_soldOn_L4] at h
    refine ya_iload_n 3 rfl dX12_soldOn_4 ?_
    refine ya_aload_n 0 rfl dX12_soldOn_5 ?_
    refine ya_getR fo_X12_9 (hG.o0 83 rfl) (hG.lt0 83 (by decide)) (hG.l0 82 rfl) dX12_soldOn_6 ?_
    refine ya_iconst 1 (by decide) dX12_soldOn_9 ?_
    refine ya_iald (hG.s0 84 rfl) (hG.lt0 84 (by decide)) dX12_soldOn_10 h (fun x10 h => ?_)
    refine ya_icmp_ge 33 (by decide) dX12_soldOn_11 (fun c => ?_) (fun c => ?_)
    · replace h := ya_itet h c
      refine ya_iload_n 2 rfl dX12_soldOn_33 ?_
      cases h
      exact ya_iret rfl rfl rfl rfl rfl (Nat.le_refl _) dX12_soldOn_34
    · replace h := ya_itef h c
      refine ya_iload_n 2 rfl dX12_soldOn_14 ?_
      refine ya_aload_n 0 rfl dX12_soldOn_15 ?_
      refine ya_getR fo_X12_43 (hG.o0 83 rfl) (hG.lt0 83 (by decide)) (hG.l0 91 rfl) dX12_soldOn_16 ?_
      refine ya_iload_n 3 rfl dX12_soldOn_19 ?_
      refine ya_iload_n 1 rfl dX12_soldOn_20 ?_
      obtain ⟨x21, e21, h⟩ := ya_ob h
      refine ya_callSi (S := [.ref (X.2.1 + 93), .int v2]) (c_X12_at hG e21) m_X12_at ⟨rfl, rfl⟩ ml_X12_105 rfl ⟨Nat.le_of_ble_eq_true rfl, Nat.le_of_ble_eq_true rfl⟩ (Nat.le_of_ble_eq_true rfl) ⟨Nat.le_refl _, Nat.le_refl _⟩ dX12_soldOn_21 rfl ?_
      refine ya_iald (hG.s0 93 rfl) (hG.lt0 93 (by decide)) dX12_soldOn_24 h (fun x24 h => ?_)
      refine ya_iadd dX12_soldOn_25 ?_
      refine ya_istore_n [(2, .int (v2 + x24)), (0, .ref (X.2.1 + 83)), (1, .int v1), (3, .int v3)] (by decide) rfl dX12_soldOn_26 ?_
      refine ya_iinc (v3 + 1) rfl 3 rfl [(3, .int (v3 + 1)), (2, .int (v2 + x24)), (0, .ref (X.2.1 + 83)), (1, .int v1)] (by decide) rfl dX12_soldOn_27 ?_
      refine ya_goto 4 (by decide) dX12_soldOn_30 ?_
      refine ya_sub [(0, .ref (X.2.1 + 83)), (1, .int v1), (2, .int (v2 + x24)), (3, .int (v3 + 1))] [2, 3, 1, 0] rfl ?_
      exact ih _ _ h
set_option maxRecDepth 20000 in
theorem c_X12_soldOn {X : ya_X} {G : ya_G} {v1 : Int32} {d : ya_D} {rr : Int32} (hG : ya_Bk ya_sh ya_ln G 0) (h : f_X12_soldOn v1 d = some rr) : ya_Ct X yX12_soldOn Y_X12_soldOn [.ref (X.2.1 + 83), .int v1] G d (some (.int rr), G, d) := by
  refine ya_ct (by decide +kernel) rfl rfl (Nat.le_of_ble_eq_true rfl) ?_
  unfold f_X12_soldOn at h
  show ya_E X Y_X12_soldOn (ya_M X (some (.int rr), G, d) 0 0) 0 [(0, .ref (X.2.1 + 83)), (1, .int v1)] [] G d 0 0
  refine ya_iconst 0 (by decide) dX12_soldOn_0 ?_
  refine ya_istore_n [(2, .int 0), (0, .ref (X.2.1 + 83)), (1, .int v1)] (by decide) rfl dX12_soldOn_1 ?_
  refine ya_iconst 0 (by decide) dX12_soldOn_2 ?_
  refine ya_istore_n [(3, .int 0), (2, .int 0), (0, .ref (X.2.1 + 83)), (1, .int v1)] (by decide) rfl dX12_soldOn_3 ?_
  refine ya_sub [(0, .ref (X.2.1 + 83)), (1, .int v1), (2, .int 0), (3, .int 0)] [2, 3, 1, 0] rfl ?_
  refine w_X12_soldOn_L4 hG  ya_F _ _ h
set_option maxRecDepth 20000 in
theorem w_X12_rich_L34 {X : ya_X} {G : ya_G} {v1 : Int32} {d : ya_D} {rr : (Int32 × ya_D)} {e89 : Int32 → Int32 → Option (Int32 × ya_D)} (hG : ya_Bk ya_sh ya_ln G 0) (he89 : ∀ (v2 : Int32) (v3 : Int32), e89 v2 v3 = some rr → ya_E X Y_X12_rich (ya_M X (some (.int rr.1), G, rr.2) 0 0) 89 [(0, .ref (X.2.1 + 83)), (1, .int v1), (2, .int v2), (3, .int v3)] [] G d 0 0) : ∀ (n : Nat) (v2 : Int32) (v3 : Int32) (v4 : Int32), f_X12_rich_L34 v1 d e89 n v2 v3 v4 = some rr → ya_E X Y_X12_rich (ya_M X (some (.int rr.1), G, rr.2) 0 0) 34 [(0, .ref (X.2.1 + 83)), (1, .int v1), (2, .int v2), (3, .int v3), (4, .int v4)] [] G d 0 0 := by
  intro n
  induction n with
  | zero => intro v2 v3 v4 h; cases h
  | succ n ih =>
    intro v2 v3 v4 h
    rw [f_X12_rich_L34] at h
    refine ya_iload 4 rfl dX12_rich_34 ?_
    refine ya_aload_n 0 rfl dX12_rich_36 ?_
    refine ya_getR fo_X12_9 (hG.o0 83 rfl) (hG.lt0 83 (by decide)) (hG.l0 82 rfl) dX12_rich_37 ?_
    refine ya_iconst 0 (by decide) dX12_rich_40 ?_
    refine ya_iald (hG.s0 84 rfl) (hG.lt0 84 (by decide)) dX12_rich_41 h (fun x41 h => ?_)
    refine ya_icmp_ge 89 (by decide) dX12_rich_42 (fun c => ?_) (fun c => ?_)
    · replace h := ya_itet h c
      refine ya_sub [(0, .ref (X.2.1 + 83)), (1, .int v1), (2, .int v2), (3, .int v3)] [0, 1, 2, 3] rfl ?_
      exact he89 _ _ h
    · replace h := ya_itef h c
      refine ya_aload_n 0 rfl dX12_rich_45 ?_
      refine ya_iload 4 rfl dX12_rich_46 ?_
      obtain ⟨x48, e48, h⟩ := ya_ob h
      refine ya_callVi (S := []) (c_X12_moneyOn hG e48) m_X12_moneyOn ⟨rfl, rfl⟩ ml_X12_335 rfl ⟨Nat.le_of_ble_eq_true rfl, Nat.le_of_ble_eq_true rfl⟩ (Nat.le_of_ble_eq_true rfl) (hG.lt0 83 (by decide)) (hG.o0 83 rfl) (by decide) rfl rfl ⟨Nat.le_refl _, Nat.le_refl _⟩ dX12_rich_48 rfl ?_
      refine ya_aload_n 0 rfl dX12_rich_51 ?_
      refine ya_iload_n 2 rfl dX12_rich_52 ?_
      obtain ⟨x53, e53, h⟩ := ya_ob h
      refine ya_callVi (S := [.int x48]) (c_X12_moneyOn hG e53) m_X12_moneyOn ⟨rfl, rfl⟩ ml_X12_335 rfl ⟨Nat.le_of_ble_eq_true rfl, Nat.le_of_ble_eq_true rfl⟩ (Nat.le_of_ble_eq_true rfl) (hG.lt0 83 (by decide)) (hG.o0 83 rfl) (by decide) rfl rfl ⟨Nat.le_refl _, Nat.le_refl _⟩ dX12_rich_53 rfl ?_
      refine ya_j1_s h (fun t0_65 => ya_E X Y_X12_rich (ya_M X (some (.int rr.1), G, rr.2) 0 0) 65 [(0, .ref (X.2.1 + 83)), (1, .int v1), (3, .int v3), (4, .int v4)] [.int t0_65] G d 0 0) (fun t0_65 h => ?_) (fun k65 hk65 h => ?_)
      · refine ya_istore_n [(2, .int t0_65), (0, .ref (X.2.1 + 83)), (1, .int v1), (3, .int v3), (4, .int v4)] (by decide) rfl dX12_rich_65 ?_
        refine ya_iload_n 3 rfl dX12_rich_66 ?_
        refine ya_aload_n 1 rfl dX12_rich_67 ?_
        refine ya_iload 4 rfl dX12_rich_68 ?_
        obtain ⟨x70, e70, h⟩ := ya_ob h
        refine ya_callVi (S := [.int v3]) (c_X12_soldOn hG e70) m_X12_soldOn ⟨rfl, rfl⟩ ml_X12_338 rfl ⟨Nat.le_of_ble_eq_true rfl, Nat.le_of_ble_eq_true rfl⟩ (Nat.le_of_ble_eq_true rfl) (hG.lt0 83 (by decide)) (hG.o0 83 rfl) (by decide) rfl rfl ⟨Nat.le_refl _, Nat.le_refl _⟩ dX12_rich_70 rfl ?_
        refine ya_j1_s h (fun t0_81 => ya_E X Y_X12_rich (ya_M X (some (.int rr.1), G, rr.2) 0 0) 81 [(0, .ref (X.2.1 + 83)), (1, .int v1), (2, .int t0_65), (4, .int v4)] [.int t0_81, .int v3] G d 0 0) (fun t0_81 h => ?_) (fun k81 hk81 h => ?_)
        · refine ya_iadd dX12_rich_81 ?_
          refine ya_istore_n [(3, .int (v3 + t0_81)), (0, .ref (X.2.1 + 83)), (1, .int v1), (2, .int t0_65), (4, .int v4)] (by decide) rfl dX12_rich_82 ?_
          refine ya_iinc (v4 + 1) rfl 4 rfl [(4, .int (v4 + 1)), (3, .int (v3 + t0_81)), (0, .ref (X.2.1 + 83)), (1, .int v1), (2, .int t0_65)] (by decide) rfl dX12_rich_83 ?_
          refine ya_goto 34 (by decide) dX12_rich_86 ?_
          refine ya_sub [(0, .ref (X.2.1 + 83)), (1, .int v1), (2, .int t0_65), (3, .int (v3 + t0_81)), (4, .int (v4 + 1))] [2, 3, 4, 1, 0] rfl ?_
          exact ih _ _ _ h
        · refine ya_ifne 80 (by decide) dX12_rich_73 (fun c => ?_) (fun c => ?_)
          · replace h := ya_itef h c
            refine ya_iconst 0 (by decide) dX12_rich_80 ?_
            refine ya_sub [(0, .ref (X.2.1 + 83)), (1, .int v1), (2, .int t0_65), (4, .int v4)] [1, 2, 0, 4] rfl ?_
            exact hk81 _ h
          · replace h := ya_itet h c
            refine ya_iconst 1 (by decide) dX12_rich_76 ?_
            refine ya_goto 81 (by decide) dX12_rich_77 ?_
            refine ya_sub [(0, .ref (X.2.1 + 83)), (1, .int v1), (2, .int t0_65), (4, .int v4)] [1, 2, 0, 4] rfl ?_
            exact hk81 _ h
      · refine ya_icmp_le 64 (by decide) dX12_rich_56 (fun c => ?_) (fun c => ?_)
        · replace h := ya_itet h c
          refine ya_iload_n 2 rfl dX12_rich_64 ?_
          refine ya_sub [(0, .ref (X.2.1 + 83)), (1, .int v1), (3, .int v3), (4, .int v4)] [0, 1, 3, 4] rfl ?_
          exact hk65 _ h
        · replace h := ya_itef h c
          refine ya_iload 4 rfl dX12_rich_59 ?_
          refine ya_goto 65 (by decide) dX12_rich_61 ?_
          refine ya_sub [(0, .ref (X.2.1 + 83)), (1, .int v1), (3, .int v3), (4, .int v4)] [0, 1, 3, 4] rfl ?_
          exact hk65 _ h
set_option maxRecDepth 20000 in
theorem c_X12_rich {X : ya_X} {G : ya_G} {v1 : Int32} {d : ya_D} {rr : (Int32 × ya_D)} (hG : ya_Bk ya_sh ya_ln G 0) (h : f_X12_rich v1 d = some rr) : ya_Ct X yX12_rich Y_X12_rich [.ref (X.2.1 + 83), .int v1] G d (some (.int rr.1), G, rr.2) := by
  refine ya_ct (by decide +kernel) rfl rfl (Nat.le_of_ble_eq_true rfl) ?_
  unfold f_X12_rich at h
  show ya_E X Y_X12_rich (ya_M X (some (.int rr.1), G, rr.2) 0 0) 0 [(0, .ref (X.2.1 + 83)), (1, .int v1)] [] G d 0 0
  refine ya_aload_n 0 rfl dX12_rich_0 ?_
  obtain ⟨x1, e1, h⟩ := ya_ob h
  refine ya_callVi (S := []) (c_X12_isMarket hG e1) m_X12_isMarket ⟨rfl, rfl⟩ ml_X12_330 rfl ⟨Nat.le_of_ble_eq_true rfl, Nat.le_of_ble_eq_true rfl⟩ (Nat.le_of_ble_eq_true rfl) (hG.lt0 83 (by decide)) (hG.o0 83 rfl) (by decide) rfl rfl ⟨Nat.le_refl _, Nat.le_refl _⟩ dX12_rich_1 rfl ?_
  refine ya_j0_s h (ya_E X Y_X12_rich (ya_M X (some (.int rr.1), G, rr.2) 0 0) 19 [] [] G d 0 0) (fun h => ?_) (fun k19 hk19 h => ?_)
  · refine ya_bipush (-2) (by decide) dX12_rich_19 ?_
    cases h
    exact ya_iret rfl rfl rfl rfl rfl (Nat.le_refl _) dX12_rich_21
  · refine ya_ifeq 19 (by decide) dX12_rich_4 (fun c => ?_) (fun c => ?_)
    · replace h := ya_itet h c
      refine ya_sub [] [] rfl ?_
      exact hk19  h
    · replace h := ya_itef h c
      refine ya_iload_n 1 rfl dX12_rich_7 ?_
      refine ya_i2l dX12_rich_8 ?_
      refine ya_lconst 0 rfl dX12_rich_9 ?_
      refine ya_ldc2 3 kc_X12_333 dX12_rich_10 ?_
      obtain ⟨x13, e13, h⟩ := ya_ob h
      refine ya_callSi (S := []) (c_X12_in hG e13) m_X12_in ⟨rfl, rfl⟩ ml_X12_94 rfl ⟨Nat.le_of_ble_eq_true rfl, Nat.le_of_ble_eq_true rfl⟩ (Nat.le_of_ble_eq_true rfl) ⟨Nat.le_refl _, Nat.le_refl _⟩ dX12_rich_13 rfl ?_
      refine ya_ifne 22 (by decide) dX12_rich_16 (fun c => ?_) (fun c => ?_)
      · replace h := ya_itef h c
        refine ya_aload_n 0 rfl dX12_rich_22 ?_
        refine ya_lconst 1 rfl dX12_rich_23 ?_
        obtain ⟨d24, e24, h⟩ := ya_ob h
        refine ya_callVv (S := []) (c_X12_runs hG e24) m_X12_runs ⟨rfl, rfl⟩ ml_X12_311 rfl ⟨Nat.le_of_ble_eq_true rfl, Nat.le_of_ble_eq_true rfl⟩ (Nat.le_of_ble_eq_true rfl) (hG.lt0 83 (by decide)) (hG.o0 83 rfl) (by decide) rfl rfl ⟨Nat.le_refl _, Nat.le_refl _⟩ dX12_rich_24 rfl ?_
        refine ya_iconst 0 (by decide) dX12_rich_27 ?_
        refine ya_istore_n [(2, .int 0), (0, .ref (X.2.1 + 83)), (1, .int v1)] (by decide) rfl dX12_rich_28 ?_
        refine ya_iconst 0 (by decide) dX12_rich_29 ?_
        refine ya_istore_n [(3, .int 0), (2, .int 0), (0, .ref (X.2.1 + 83)), (1, .int v1)] (by decide) rfl dX12_rich_30 ?_
        refine ya_iconst 0 (by decide) dX12_rich_31 ?_
        refine ya_istore [(4, .int 0), (3, .int 0), (2, .int 0), (0, .ref (X.2.1 + 83)), (1, .int v1)] (by decide) rfl dX12_rich_32 ?_
        refine ya_sub [(0, .ref (X.2.1 + 83)), (1, .int v1), (2, .int 0), (3, .int 0), (4, .int 0)] [3, 4, 2, 1, 0] rfl ?_
        refine w_X12_rich_L34 hG (fun v2_89 v3_89 h => ?_) ya_F _ _ _ h
        refine ya_iload_n 1 rfl dX12_rich_89 ?_
        refine ya_ifne 111 (by decide) dX12_rich_90 (fun c => ?_) (fun c => ?_)
        · replace h := ya_itef h c
          refine ya_iload_n 1 rfl dX12_rich_111 ?_
          refine ya_iconst 1 (by decide) dX12_rich_112 ?_
          refine ya_icmp_ne 124 (by decide) dX12_rich_113 (fun c => ?_) (fun c => ?_)
          · replace h := ya_itef h c
            refine ya_iload_n 1 rfl dX12_rich_124 ?_
            refine ya_iconst 2 (by decide) dX12_rich_125 ?_
            refine ya_icmp_ne 133 (by decide) dX12_rich_126 (fun c => ?_) (fun c => ?_)
            · replace h := ya_itef h c
              refine ya_aload_n 0 rfl dX12_rich_133 ?_
              refine ya_getI fo_X12_291 (hG.o0 83 rfl) (hG.lt0 83 (by decide)) dX12_rich_134 ?_
              cases h
              exact ya_iret rfl rfl rfl rfl rfl (Nat.le_refl _) dX12_rich_137
            · replace h := ya_itet h c
              refine ya_iload_n 3 rfl dX12_rich_129 ?_
              refine ya_goto 137 (by decide) dX12_rich_130 ?_
              cases h
              exact ya_iret rfl rfl rfl rfl rfl (Nat.le_refl _) dX12_rich_137
          · replace h := ya_itet h c
            refine ya_aload_n 0 rfl dX12_rich_116 ?_
            refine ya_iload_n 2 rfl dX12_rich_117 ?_
            obtain ⟨x118, e118, h⟩ := ya_ob h
            refine ya_callVi (S := []) (c_X12_moneyOn hG e118) m_X12_moneyOn ⟨rfl, rfl⟩ ml_X12_335 rfl ⟨Nat.le_of_ble_eq_true rfl, Nat.le_of_ble_eq_true rfl⟩ (Nat.le_of_ble_eq_true rfl) (hG.lt0 83 (by decide)) (hG.o0 83 rfl) (by decide) rfl rfl ⟨Nat.le_refl _, Nat.le_refl _⟩ dX12_rich_118 rfl ?_
            refine ya_goto 137 (by decide) dX12_rich_121 ?_
            cases h
            exact ya_iret rfl rfl rfl rfl rfl (Nat.le_refl _) dX12_rich_137
        · replace h := ya_itet h c
          refine ya_iload_n 3 rfl dX12_rich_93 ?_
          refine ya_aload_n 0 rfl dX12_rich_94 ?_
          refine ya_getR fo_X12_9 (hG.o0 83 rfl) (hG.lt0 83 (by decide)) (hG.l0 82 rfl) dX12_rich_95 ?_
          refine ya_iconst 0 (by decide) dX12_rich_98 ?_
          refine ya_iald (hG.s0 84 rfl) (hG.lt0 84 (by decide)) dX12_rich_99 h (fun x99 h => ?_)
          refine ya_icmp_ne 107 (by decide) dX12_rich_100 (fun c => ?_) (fun c => ?_)
          · replace h := ya_itef h c
            refine ya_iload_n 2 rfl dX12_rich_107 ?_
            refine ya_goto 137 (by decide) dX12_rich_108 ?_
            cases h
            exact ya_iret rfl rfl rfl rfl rfl (Nat.le_refl _) dX12_rich_137
          · replace h := ya_itet h c
            refine ya_iconst (-1) (by decide) dX12_rich_103 ?_
            refine ya_goto 137 (by decide) dX12_rich_104 ?_
            cases h
            exact ya_iret rfl rfl rfl rfl rfl (Nat.le_refl _) dX12_rich_137
      · replace h := ya_itet h c
        refine ya_sub [] [] rfl ?_
        exact hk19  h
set_option maxRecDepth 20000 in
theorem w_X12_canFill_L12 {X : ya_X} {G : ya_G} {v1 : Int32} {v2 : Int32} {rr : (Int32 × ya_D)} {e40 : ya_D → Option (Int32 × ya_D)} (hG : ya_Bk ya_sh ya_ln G 0) (he40 : ∀ (d : ya_D), e40 d = some rr → ya_E X Y_X12_canFill (ya_M X (some (.int rr.1), G, rr.2) 0 0) 40 [(0, .ref (X.2.1 + 83)), (2, .int v2)] [] G d 0 0) : ∀ (n : Nat) (v3 : Int32) (d : ya_D), f_X12_canFill_L12 v1 v2 e40 n v3 d = some rr → ya_E X Y_X12_canFill (ya_M X (some (.int rr.1), G, rr.2) 0 0) 12 [(0, .ref (X.2.1 + 83)), (1, .int v1), (2, .int v2), (3, .int v3)] [] G d 0 0 := by
  intro n
  induction n with
  | zero => intro v3 d h; cases h
  | succ n ih =>
    intro v3 d h
    rw [f_X12_canFill_L12] at h
    refine ya_iload_n 3 rfl dX12_canFill_12 ?_
    refine ya_aload_n 0 rfl dX12_canFill_13 ?_
    refine ya_getR fo_X12_9 (hG.o0 83 rfl) (hG.lt0 83 (by decide)) (hG.l0 82 rfl) dX12_canFill_14 ?_
    refine ya_iconst 0 (by decide) dX12_canFill_17 ?_
    refine ya_iald (hG.s0 84 rfl) (hG.lt0 84 (by decide)) dX12_canFill_18 h (fun x18 h => ?_)
    refine ya_icmp_ge 40 (by decide) dX12_canFill_19 (fun c => ?_) (fun c => ?_)
    · replace h := ya_itet h c
      refine ya_sub [(0, .ref (X.2.1 + 83)), (2, .int v2)] [0, 2] rfl ?_
      exact he40 _ h
    · replace h := ya_itef h c
      refine ya_aload_n 0 rfl dX12_canFill_22 ?_
      refine ya_getR fo_X12_73 (hG.o0 83 rfl) (hG.lt0 83 (by decide)) (hG.l0 101 rfl) dX12_canFill_23 ?_
      refine ya_iload_n 3 rfl dX12_canFill_26 ?_
      refine ya_aload_n 0 rfl dX12_canFill_27 ?_
      refine ya_iload_n 1 rfl dX12_canFill_28 ?_
      refine ya_iload_n 3 rfl dX12_canFill_29 ?_
      obtain ⟨x30, e30, h⟩ := ya_ob h
      refine ya_callVi (S := [.int v3, .ref (X.2.1 + 103)]) (c_X12_comesTo hG e30) m_X12_comesTo ⟨rfl, rfl⟩ ml_X12_276 rfl ⟨Nat.le_of_ble_eq_true rfl, Nat.le_of_ble_eq_true rfl⟩ (Nat.le_of_ble_eq_true rfl) (hG.lt0 83 (by decide)) (hG.o0 83 rfl) (by decide) rfl rfl ⟨Nat.le_refl _, Nat.le_refl _⟩ dX12_canFill_30 rfl ?_
      refine ya_iast (hG.s0 103 rfl) (hG.lt0 103 (by decide)) dX12_canFill_33 h (fun d33 h => ?_)
      refine ya_iinc (v3 + 1) rfl 3 rfl [(3, .int (v3 + 1)), (0, .ref (X.2.1 + 83)), (1, .int v1), (2, .int v2)] (by decide) rfl dX12_canFill_34 ?_
      refine ya_goto 12 (by decide) dX12_canFill_37 ?_
      refine ya_sub [(0, .ref (X.2.1 + 83)), (1, .int v1), (2, .int v2), (3, .int (v3 + 1))] [1, 2, 3, 0] rfl ?_
      exact ih _ _ h
set_option maxRecDepth 20000 in
theorem w_X12_canFill_L69 {X : ya_X} {G : ya_G} {v2 : Int32} {v3 : Int32} {rr : (Int32 × ya_D)} {e119 : Int32 → ya_D → Option (Int32 × ya_D)} (hG : ya_Bk ya_sh ya_ln G 0) (he119 : ∀ (v4 : Int32) (d : ya_D), e119 v4 d = some rr → ya_E X Y_X12_canFill (ya_M X (some (.int rr.1), G, rr.2) 0 0) 119 [(0, .ref (X.2.1 + 83)), (2, .int v2), (3, .int v3), (4, .int v4)] [] G d 0 0) : ∀ (n : Nat) (v4 : Int32) (v5 : Int32) (d : ya_D), f_X12_canFill_L69 v2 v3 e119 n v4 v5 d = some rr → ya_E X Y_X12_canFill (ya_M X (some (.int rr.1), G, rr.2) 0 0) 69 [(0, .ref (X.2.1 + 83)), (2, .int v2), (3, .int v3), (4, .int v4), (5, .int v5)] [] G d 0 0 := by
  intro n
  induction n with
  | zero => intro v4 v5 d h; cases h
  | succ n ih =>
    intro v4 v5 d h
    rw [f_X12_canFill_L69] at h
    refine ya_iload 4 rfl dX12_canFill_69 ?_
    refine ya_iload_n 2 rfl dX12_canFill_71 ?_
    refine ya_icmp_gt 119 (by decide) dX12_canFill_72 (fun c => ?_) (fun c => ?_)
    · replace h := ya_itet h c
      refine ya_sub [(0, .ref (X.2.1 + 83)), (2, .int v2), (3, .int v3), (4, .int v4)] [0, 1, 2, 3] rfl ?_
      exact he119 _ _ h
    · replace h := ya_itef h c
      refine ya_iload 3 rfl dX12_canFill_75 ?_
      refine ya_ifle 119 (by decide) dX12_canFill_77 (fun c => ?_) (fun c => ?_)
      · replace h := ya_itet h c
        refine ya_sub [(0, .ref (X.2.1 + 83)), (2, .int v2), (3, .int v3), (4, .int v4)] [0, 1, 2, 3] rfl ?_
        exact he119 _ _ h
      · replace h := ya_itef h c
        refine ya_iload 3 rfl dX12_canFill_80 ?_
        refine ya_aload_n 0 rfl dX12_canFill_82 ?_
        refine ya_getR fo_X12_73 (hG.o0 83 rfl) (hG.lt0 83 (by decide)) (hG.l0 101 rfl) dX12_canFill_83 ?_
        refine ya_iload 4 rfl dX12_canFill_86 ?_
        refine ya_iald (hG.s0 103 rfl) (hG.lt0 103 (by decide)) dX12_canFill_88 h (fun x88 h => ?_)
        refine ya_mmin ml_X12_142 wm_min1 wm_min2 wm_min3 (by decide) (Nat.le_of_ble_eq_true rfl) ⟨Nat.le_refl _, Nat.le_refl _⟩ dX12_canFill_89 ?_
        refine ya_istore [(6, .int (ya_min v4 x88)), (0, .ref (X.2.1 + 83)), (2, .int v2), (3, .int v3), (4, .int v4), (5, .int v5)] (by decide) rfl dX12_canFill_92 ?_
        refine ya_aload_n 1 rfl dX12_canFill_94 ?_
        refine ya_getR fo_X12_73 (hG.o0 83 rfl) (hG.lt0 83 (by decide)) (hG.l0 101 rfl) dX12_canFill_95 ?_
        refine ya_iload 5 rfl dX12_canFill_98 ?_
        refine ya_dup2 rfl rfl dX12_canFill_100 ?_
        refine ya_iald (hG.s0 103 rfl) (hG.lt0 103 (by decide)) dX12_canFill_101 h (fun x101 h => ?_)
        refine ya_iload 0 rfl dX12_canFill_102 ?_
        refine ya_isub dX12_canFill_104 ?_
        refine ya_iast (hG.s0 103 rfl) (hG.lt0 103 (by decide)) dX12_canFill_105 h (fun d105 h => ?_)
        refine ya_iload 4 rfl dX12_canFill_106 ?_
        refine ya_iload 0 rfl dX12_canFill_108 ?_
        refine ya_isub dX12_canFill_110 ?_
        refine ya_istore [(4, .int (v4 - (ya_min v4 x88))), (6, .int (ya_min v4 x88)), (0, .ref (X.2.1 + 83)), (2, .int v2), (3, .int v3), (5, .int v5)] (by decide) rfl dX12_canFill_111 ?_
        refine ya_iinc (v5 + 1) rfl 5 rfl [(5, .int (v5 + 1)), (4, .int (v4 - (ya_min v4 x88))), (6, .int (ya_min v4 x88)), (0, .ref (X.2.1 + 83)), (2, .int v2), (3, .int v3)] (by decide) rfl dX12_canFill_113 ?_
        refine ya_goto 69 (by decide) dX12_canFill_116 ?_
        refine ya_sub [(0, .ref (X.2.1 + 83)), (2, .int v2), (3, .int v3), (4, .int (v4 - (ya_min v4 x88))), (5, .int (v5 + 1))] [3, 4, 5, 1, 0] rfl ?_
        exact ih _ _ _ h
set_option maxRecDepth 20000 in
theorem w_X12_canFill_L42 {X : ya_X} {G : ya_G} {v2 : Int32} {rr : (Int32 × ya_D)} (hG : ya_Bk ya_sh ya_ln G 0) : ∀ (n : Nat) (v3 : Int32) (d : ya_D), f_X12_canFill_L42 v2 n v3 d = some rr → ya_E X Y_X12_canFill (ya_M X (some (.int rr.1), G, rr.2) 0 0) 42 [(0, .ref (X.2.1 + 83)), (2, .int v2), (3, .int v3)] [] G d 0 0 := by
  intro n
  induction n with
  | zero => intro v3 d h; cases h
  | succ n ih =>
    intro v3 d h
    rw [f_X12_canFill_L42] at h
    refine ya_iload_n 2 rfl dX12_canFill_42 ?_
    refine ya_aload_n 0 rfl dX12_canFill_43 ?_
    refine ya_getR fo_X12_9 (hG.o0 83 rfl) (hG.lt0 83 (by decide)) (hG.l0 82 rfl) dX12_canFill_44 ?_
    refine ya_iconst 0 (by decide) dX12_canFill_47 ?_
    refine ya_iald (hG.s0 84 rfl) (hG.lt0 84 (by decide)) dX12_canFill_48 h (fun x48 h => ?_)
    refine ya_icmp_ge 132 (by decide) dX12_canFill_49 (fun c => ?_) (fun c => ?_)
    · replace h := ya_itet h c
      refine ya_iconst 1 (by decide) dX12_canFill_132 ?_
      cases h
      exact ya_zret .boolean rfl rfl rfl rfl (by decide) rfl (Nat.le_refl _) dX12_canFill_133
    · replace h := ya_itef h c
      refine ya_aload_n 0 rfl dX12_canFill_52 ?_
      refine ya_getR fo_X12_70 (hG.o0 83 rfl) (hG.lt0 83 (by decide)) (hG.l0 100 rfl) dX12_canFill_53 ?_
      refine ya_iload_n 2 rfl dX12_canFill_56 ?_
      refine ya_iald (hG.s0 102 rfl) (hG.lt0 102 (by decide)) dX12_canFill_57 h (fun x57 h => ?_)
      refine ya_istore [(4, .int x57), (0, .ref (X.2.1 + 83)), (2, .int v2), (3, .int v3)] (by decide) rfl dX12_canFill_58 ?_
      refine ya_iconst 0 (by decide) dX12_canFill_60 ?_
      refine ya_iload_n 3 rfl dX12_canFill_61 ?_
      refine ya_iload_n 2 rfl dX12_canFill_62 ?_
      refine ya_isub dX12_canFill_63 ?_
      refine ya_mmax ml_X12_341 wm_max1 wm_max2 wm_max3 (by decide) (Nat.le_of_ble_eq_true rfl) ⟨Nat.le_refl _, Nat.le_refl _⟩ dX12_canFill_64 ?_
      refine ya_istore [(5, .int (ya_max 0 (v3 - v2))), (4, .int x57), (0, .ref (X.2.1 + 83)), (2, .int v2), (3, .int v3)] (by decide) rfl dX12_canFill_67 ?_
      refine ya_sub [(0, .ref (X.2.1 + 83)), (2, .int v2), (3, .int v3), (4, .int x57), (5, .int (ya_max 0 (v3 - v2)))] [2, 3, 4, 1, 0] rfl ?_
      refine w_X12_canFill_L69 hG (fun v4_119 d_119 h => ?_) ya_F _ _ _ h
      refine ya_iload 3 rfl dX12_canFill_119 ?_
      refine ya_ifle 126 (by decide) dX12_canFill_121 (fun c => ?_) (fun c => ?_)
      · replace h := ya_itet h c
        refine ya_iinc (v3 + 1) rfl 2 rfl [(3, .int (v3 + 1)), (0, .ref (X.2.1 + 83)), (2, .int v2), (4, .int v4_119)] (by decide) rfl dX12_canFill_126 ?_
        refine ya_goto 42 (by decide) dX12_canFill_129 ?_
        refine ya_sub [(0, .ref (X.2.1 + 83)), (2, .int v2), (3, .int (v3 + 1))] [1, 2, 0] rfl ?_
        exact ih _ _ h
      · replace h := ya_itef h c
        refine ya_iconst 0 (by decide) dX12_canFill_124 ?_
        cases h
        exact ya_zret .boolean rfl rfl rfl rfl (by decide) rfl (Nat.le_refl _) dX12_canFill_125
set_option maxRecDepth 20000 in
theorem c_X12_canFill {X : ya_X} {G : ya_G} {v1 : Int32} {d : ya_D} {rr : (Int32 × ya_D)} (hG : ya_Bk ya_sh ya_ln G 0) (h : f_X12_canFill v1 d = some rr) : ya_Ct X yX12_canFill Y_X12_canFill [.ref (X.2.1 + 83), .int v1] G d (some (.int rr.1), G, rr.2) := by
  refine ya_ct (by decide +kernel) rfl rfl (Nat.le_of_ble_eq_true rfl) ?_
  unfold f_X12_canFill at h
  show ya_E X Y_X12_canFill (ya_M X (some (.int rr.1), G, rr.2) 0 0) 0 [(0, .ref (X.2.1 + 83)), (1, .int v1)] [] G d 0 0
  refine ya_aload_n 0 rfl dX12_canFill_0 ?_
  refine ya_aload_n 0 rfl dX12_canFill_1 ?_
  refine ya_iload_n 1 rfl dX12_canFill_2 ?_
  obtain ⟨x3, e3, h⟩ := ya_ob h
  refine ya_callVi (S := [.ref (X.2.1 + 83)]) (c_X12_thingOf hG e3) m_X12_thingOf ⟨rfl, rfl⟩ ml_X12_270 rfl ⟨Nat.le_of_ble_eq_true rfl, Nat.le_of_ble_eq_true rfl⟩ (Nat.le_of_ble_eq_true rfl) (hG.lt0 83 (by decide)) (hG.o0 83 rfl) (by decide) rfl rfl ⟨Nat.le_refl _, Nat.le_refl _⟩ dX12_canFill_3 rfl ?_
  obtain ⟨x6, e6, h⟩ := ya_ob h
  refine ya_callVi (S := []) (c_X12_keepsOf hG e6) m_X12_keepsOf ⟨rfl, rfl⟩ ml_X12_273 rfl ⟨Nat.le_of_ble_eq_true rfl, Nat.le_of_ble_eq_true rfl⟩ (Nat.le_of_ble_eq_true rfl) (hG.lt0 83 (by decide)) (hG.o0 83 rfl) (by decide) rfl rfl ⟨Nat.le_refl _, Nat.le_refl _⟩ dX12_canFill_6 rfl ?_
  refine ya_istore_n [(2, .int x6), (0, .ref (X.2.1 + 83)), (1, .int v1)] (by decide) rfl dX12_canFill_9 ?_
  refine ya_iconst 0 (by decide) dX12_canFill_10 ?_
  refine ya_istore_n [(3, .int 0), (2, .int x6), (0, .ref (X.2.1 + 83)), (1, .int v1)] (by decide) rfl dX12_canFill_11 ?_
  refine ya_sub [(0, .ref (X.2.1 + 83)), (1, .int v1), (2, .int x6), (3, .int 0)] [2, 3, 1, 0] rfl ?_
  refine w_X12_canFill_L12 hG (fun d_40 h => ?_) ya_F _ _ h
  refine ya_iconst 0 (by decide) dX12_canFill_40 ?_
  refine ya_istore_n [(3, .int 0), (0, .ref (X.2.1 + 83)), (2, .int x6)] (by decide) rfl dX12_canFill_41 ?_
  refine ya_sub [(0, .ref (X.2.1 + 83)), (2, .int x6), (3, .int 0)] [1, 2, 0] rfl ?_
  refine w_X12_canFill_L42 hG  ya_F _ _ h
set_option maxRecDepth 20000 in
theorem w_X12_fillsUp_L6 {X : ya_X} {G : ya_G} {v1 : Int32} {v2 : Int32} {rr : ya_D} (hG : ya_Bk ya_sh ya_ln G 0) : ∀ (n : Nat) (v4 : Int32) (v5 : Int32) (d : ya_D), f_X12_fillsUp_L6 v1 v2 n v4 v5 d = some rr → ya_E X Y_X12_fillsUp (ya_M X (none, G, rr) 0 0) 6 [(0, .ref (X.2.1 + 83)), (1, .int v1), (2, .int v2), (4, .int v4), (5, .int v5)] [] G d 0 0 := by
  intro n
  induction n with
  | zero => intro v4 v5 d h; cases h
  | succ n ih =>
    intro v4 v5 d h
    rw [f_X12_fillsUp_L6] at h
    refine ya_iload 3 rfl dX12_fillsUp_6 ?_
    refine ya_iload 4 rfl dX12_fillsUp_8 ?_
    refine ya_icmp_ge 60 (by decide) dX12_fillsUp_10 (fun c => ?_) (fun c => ?_)
    · replace h := ya_itet h c
      refine ya_aload_n 0 rfl dX12_fillsUp_60 ?_
      refine ya_getR fo_X12_70 (hG.o0 83 rfl) (hG.lt0 83 (by decide)) (hG.l0 100 rfl) dX12_fillsUp_61 ?_
      refine ya_iload_n 2 rfl dX12_fillsUp_64 ?_
      refine ya_iload 3 rfl dX12_fillsUp_65 ?_
      refine ya_iast (hG.s0 102 rfl) (hG.lt0 102 (by decide)) dX12_fillsUp_67 h (fun d67 h => ?_)
      cases h
      exact ya_vret rfl rfl rfl rfl rfl (Nat.le_refl _) dX12_fillsUp_68
    · replace h := ya_itef h c
      refine ya_aload_n 0 rfl dX12_fillsUp_13 ?_
      refine ya_getR fo_X12_70 (hG.o0 83 rfl) (hG.lt0 83 (by decide)) (hG.l0 100 rfl) dX12_fillsUp_14 ?_
      refine ya_iload_n 2 rfl dX12_fillsUp_17 ?_
      refine ya_iload 3 rfl dX12_fillsUp_18 ?_
      refine ya_iload 4 rfl dX12_fillsUp_20 ?_
      refine ya_iadd dX12_fillsUp_22 ?_
      refine ya_iconst 1 (by decide) dX12_fillsUp_23 ?_
      refine ya_iadd dX12_fillsUp_24 ?_
      refine ya_iconst 2 (by decide) dX12_fillsUp_25 ?_
      refine ya_idiv (by decide) dX12_fillsUp_26 ?_
      refine ya_iast (hG.s0 102 rfl) (hG.lt0 102 (by decide)) dX12_fillsUp_27 h (fun d27 h => ?_)
      refine ya_aload_n 0 rfl dX12_fillsUp_28 ?_
      refine ya_iload_n 1 rfl dX12_fillsUp_29 ?_
      obtain ⟨x30, d30, e30, h⟩ := ya_ob2 h
      refine ya_callVi (S := []) (c_X12_canFill hG e30) m_X12_canFill ⟨rfl, rfl⟩ ml_X12_344 rfl ⟨Nat.le_of_ble_eq_true rfl, Nat.le_of_ble_eq_true rfl⟩ (Nat.le_of_ble_eq_true rfl) (hG.lt0 83 (by decide)) (hG.o0 83 rfl) (by decide) rfl rfl ⟨Nat.le_refl _, Nat.le_refl _⟩ dX12_fillsUp_30 rfl ?_
      refine ya_ifeq 47 (by decide) dX12_fillsUp_33 (fun c => ?_) (fun c => ?_)
      · replace h := ya_itet h c
        refine ya_aload_n 0 rfl dX12_fillsUp_47 ?_
        refine ya_getR fo_X12_70 (hG.o0 83 rfl) (hG.lt0 83 (by decide)) (hG.l0 100 rfl) dX12_fillsUp_48 ?_
        refine ya_iload_n 2 rfl dX12_fillsUp_51 ?_
        refine ya_iald (hG.s0 102 rfl) (hG.lt0 102 (by decide)) dX12_fillsUp_52 h (fun x52 h => ?_)
        refine ya_iconst 1 (by decide) dX12_fillsUp_53 ?_
        refine ya_isub dX12_fillsUp_54 ?_
        refine ya_istore [(5, .int (x52 - 1)), (0, .ref (X.2.1 + 83)), (1, .int v1), (2, .int v2), (4, .int v4)] (by decide) rfl dX12_fillsUp_55 ?_
        refine ya_goto 6 (by decide) dX12_fillsUp_57 ?_
        refine ya_sub [(0, .ref (X.2.1 + 83)), (1, .int v1), (2, .int v2), (4, .int v4), (5, .int (x52 - 1))] [1, 2, 3, 4, 0] rfl ?_
        exact ih _ _ _ h
      · replace h := ya_itef h c
        refine ya_aload_n 0 rfl dX12_fillsUp_36 ?_
        refine ya_getR fo_X12_70 (hG.o0 83 rfl) (hG.lt0 83 (by decide)) (hG.l0 100 rfl) dX12_fillsUp_37 ?_
        refine ya_iload_n 2 rfl dX12_fillsUp_40 ?_
        refine ya_iald (hG.s0 102 rfl) (hG.lt0 102 (by decide)) dX12_fillsUp_41 h (fun x41 h => ?_)
        refine ya_istore [(4, .int x41), (0, .ref (X.2.1 + 83)), (1, .int v1), (2, .int v2), (5, .int v5)] (by decide) rfl dX12_fillsUp_42 ?_
        refine ya_goto 6 (by decide) dX12_fillsUp_44 ?_
        refine ya_sub [(0, .ref (X.2.1 + 83)), (1, .int v1), (2, .int v2), (4, .int x41), (5, .int v5)] [1, 2, 3, 0, 4] rfl ?_
        exact ih _ _ _ h
set_option maxRecDepth 20000 in
theorem c_X12_fillsUp {X : ya_X} {G : ya_G} {v1 : Int32} {v2 : Int32} {v3 : Int32} {d : ya_D} {rr : ya_D} (hG : ya_Bk ya_sh ya_ln G 0) (h : f_X12_fillsUp v1 v2 v3 d = some rr) : ya_Ct X yX12_fillsUp Y_X12_fillsUp [.ref (X.2.1 + 83), .int v1, .int v2, .int v3] G d (none, G, rr) := by
  refine ya_ct (by decide +kernel) rfl rfl (Nat.le_of_ble_eq_true rfl) ?_
  unfold f_X12_fillsUp at h
  show ya_E X Y_X12_fillsUp (ya_M X (none, G, rr) 0 0) 0 [(0, .ref (X.2.1 + 83)), (1, .int v1), (2, .int v2), (3, .int v3)] [] G d 0 0
  refine ya_iconst 0 (by decide) dX12_fillsUp_0 ?_
  refine ya_istore [(4, .int 0), (0, .ref (X.2.1 + 83)), (1, .int v1), (2, .int v2), (3, .int v3)] (by decide) rfl dX12_fillsUp_1 ?_
  refine ya_iload_n 4 rfl dX12_fillsUp_3 ?_
  refine ya_istore [(5, .int v3), (4, .int 0), (0, .ref (X.2.1 + 83)), (1, .int v1), (2, .int v2), (3, .int v3)] (by decide) rfl dX12_fillsUp_4 ?_
  refine ya_sub [(0, .ref (X.2.1 + 83)), (1, .int v1), (2, .int v2), (4, .int 0), (5, .int v3)] [2, 3, 4, 1, 0] rfl ?_
  refine w_X12_fillsUp_L6 hG  ya_F _ _ _ h
set_option maxRecDepth 20000 in
theorem w_X12_bestBut_L15 {X : ya_X} {G : ya_G} {v1 : Int32} {v2 : Int32} {v3 : Int32} {v4 : Int32} {v5 : Int32} {rr : (Int32 × ya_D)} {e40 : ya_D → Option (Int32 × ya_D)} (hG : ya_Bk ya_sh ya_ln G 0) (he40 : ∀ (d : ya_D), e40 d = some rr → ya_E X Y_X12_bestBut (ya_M X (some (.int rr.1), G, rr.2) 0 0) 40 [(0, .ref (X.2.1 + 83)), (1, .int v1), (2, .int v2), (3, .int v3), (4, .int v4), (5, .int v5)] [] G d 0 0) : ∀ (n : Nat) (v6 : Int32) (d : ya_D), f_X12_bestBut_L15 v1 v2 v3 v4 v5 e40 n v6 d = some rr → ya_E X Y_X12_bestBut (ya_M X (some (.int rr.1), G, rr.2) 0 0) 15 [(0, .ref (X.2.1 + 83)), (1, .int v1), (2, .int v2), (3, .int v3), (4, .int v4), (5, .int v5), (6, .int v6)] [] G d 0 0 := by
  intro n
  induction n with
  | zero => intro v6 d h; cases h
  | succ n ih =>
    intro v6 d h
    rw [f_X12_bestBut_L15] at h
    refine ya_iload 6 rfl dX12_bestBut_15 ?_
    refine ya_aload_n 0 rfl dX12_bestBut_17 ?_
    refine ya_getR fo_X12_9 (hG.o0 83 rfl) (hG.lt0 83 (by decide)) (hG.l0 82 rfl) dX12_bestBut_18 ?_
    refine ya_iconst 0 (by decide) dX12_bestBut_21 ?_
    refine ya_iald (hG.s0 84 rfl) (hG.lt0 84 (by decide)) dX12_bestBut_22 h (fun x22 h => ?_)
    refine ya_icmp_ge 40 (by decide) dX12_bestBut_23 (fun c => ?_) (fun c => ?_)
    · replace h := ya_itet h c
      refine ya_sub [(0, .ref (X.2.1 + 83)), (1, .int v1), (2, .int v2), (3, .int v3), (4, .int v4), (5, .int v5)] [0, 1, 2, 3, 4, 5] rfl ?_
      exact he40 _ h
    · replace h := ya_itef h c
      refine ya_aload_n 0 rfl dX12_bestBut_26 ?_
      refine ya_getR fo_X12_70 (hG.o0 83 rfl) (hG.lt0 83 (by decide)) (hG.l0 100 rfl) dX12_bestBut_27 ?_
      refine ya_iload 6 rfl dX12_bestBut_30 ?_
      refine ya_iconst 0 (by decide) dX12_bestBut_32 ?_
      refine ya_iast (hG.s0 102 rfl) (hG.lt0 102 (by decide)) dX12_bestBut_33 h (fun d33 h => ?_)
      refine ya_iinc (v6 + 1) rfl 6 rfl [(6, .int (v6 + 1)), (0, .ref (X.2.1 + 83)), (1, .int v1), (2, .int v2), (3, .int v3), (4, .int v4), (5, .int v5)] (by decide) rfl dX12_bestBut_34 ?_
      refine ya_goto 15 (by decide) dX12_bestBut_37 ?_
      refine ya_sub [(0, .ref (X.2.1 + 83)), (1, .int v1), (2, .int v2), (3, .int v3), (4, .int v4), (5, .int v5), (6, .int (v6 + 1))] [1, 2, 3, 4, 5, 6, 0] rfl ?_
      exact ih _ _ h
set_option maxRecDepth 20000 in
theorem w_X12_bestBut_L60 {X : ya_X} {G : ya_G} {v1 : Int32} {v2 : Int32} {v3 : Int32} {v4 : Int32} {v5 : Int32} {v6 : Int32} {d : ya_D} {rr : (Int32 × ya_D)} {e114 : Int32 → Option (Int32 × ya_D)} (hG : ya_Bk ya_sh ya_ln G 0) (he114 : ∀ (v7 : Int32), e114 v7 = some rr → ya_E X Y_X12_bestBut (ya_M X (some (.int rr.1), G, rr.2) 0 0) 114 [(0, .ref (X.2.1 + 83)), (1, .int v1), (2, .int v2), (3, .int v3), (4, .int v4), (5, .int v5), (6, .int v6), (7, .int v7)] [] G d 0 0) : ∀ (n : Nat) (v7 : Int32) (v8 : Int32), f_X12_bestBut_L60 v1 v2 v3 v4 v5 v6 d e114 n v7 v8 = some rr → ya_E X Y_X12_bestBut (ya_M X (some (.int rr.1), G, rr.2) 0 0) 60 [(0, .ref (X.2.1 + 83)), (1, .int v1), (2, .int v2), (3, .int v3), (4, .int v4), (5, .int v5), (6, .int v6), (7, .int v7), (8, .int v8)] [] G d 0 0 := by
  intro n
  induction n with
  | zero => intro v7 v8 h; cases h
  | succ n ih =>
    intro v7 v8 h
    rw [f_X12_bestBut_L60] at h
    refine ya_iload 8 rfl dX12_bestBut_60 ?_
    refine ya_aload_n 0 rfl dX12_bestBut_62 ?_
    refine ya_getR fo_X12_9 (hG.o0 83 rfl) (hG.lt0 83 (by decide)) (hG.l0 82 rfl) dX12_bestBut_63 ?_
    refine ya_iconst 0 (by decide) dX12_bestBut_66 ?_
    refine ya_iald (hG.s0 84 rfl) (hG.lt0 84 (by decide)) dX12_bestBut_67 h (fun x67 h => ?_)
    refine ya_icmp_ge 114 (by decide) dX12_bestBut_68 (fun c => ?_) (fun c => ?_)
    · replace h := ya_itet h c
      refine ya_sub [(0, .ref (X.2.1 + 83)), (1, .int v1), (2, .int v2), (3, .int v3), (4, .int v4), (5, .int v5), (6, .int v6), (7, .int v7)] [0, 1, 2, 3, 4, 5, 6, 7] rfl ?_
      exact he114 _ h
    · replace h := ya_itef h c
      refine ya_iload 4 rfl dX12_bestBut_71 ?_
      refine ya_iload 8 rfl dX12_bestBut_73 ?_
      refine ya_ishr dX12_bestBut_75 ?_
      refine ya_iconst 1 (by decide) dX12_bestBut_76 ?_
      refine ya_iand dX12_bestBut_77 ?_
      refine ya_j1_s h (fun v7_108 => ya_E X Y_X12_bestBut (ya_M X (some (.int rr.1), G, rr.2) 0 0) 108 [(0, .ref (X.2.1 + 83)), (1, .int v1), (2, .int v2), (3, .int v3), (4, .int v4), (5, .int v5), (6, .int v6), (7, .int v7_108), (8, .int v8)] [] G d 0 0) (fun v7_108 h => ?_) (fun k108 hk108 h => ?_)
      · refine ya_iinc (v8 + 1) rfl 8 rfl [(8, .int (v8 + 1)), (0, .ref (X.2.1 + 83)), (1, .int v1), (2, .int v2), (3, .int v3), (4, .int v4), (5, .int v5), (6, .int v6), (7, .int v7_108)] (by decide) rfl dX12_bestBut_108 ?_
        refine ya_goto 60 (by decide) dX12_bestBut_111 ?_
        refine ya_sub [(0, .ref (X.2.1 + 83)), (1, .int v1), (2, .int v2), (3, .int v3), (4, .int v4), (5, .int v5), (6, .int v6), (7, .int v7_108), (8, .int (v8 + 1))] [1, 2, 3, 4, 5, 6, 7, 8, 0] rfl ?_
        exact ih _ _ h
      · refine ya_ifne 108 (by decide) dX12_bestBut_78 (fun c => ?_) (fun c => ?_)
        · replace h := ya_itef h c
          exact hk108 _ h
        · replace h := ya_itet h c
          refine ya_iload 7 rfl dX12_bestBut_81 ?_
          refine ya_iconst (-1) (by decide) dX12_bestBut_83 ?_
          refine ya_j0_s h (ya_E X Y_X12_bestBut (ya_M X (some (.int rr.1), G, rr.2) 0 0) 104 [(0, .ref (X.2.1 + 83)), (1, .int v1), (2, .int v2), (3, .int v3), (4, .int v4), (5, .int v5), (6, .int v6), (8, .int v8)] [] G d 0 0) (fun h => ?_) (fun k104 hk104 h => ?_)
          · refine ya_iload 7 rfl dX12_bestBut_104 ?_
            refine ya_istore [(7, .int v8), (0, .ref (X.2.1 + 83)), (1, .int v1), (2, .int v2), (3, .int v3), (4, .int v4), (5, .int v5), (6, .int v6), (8, .int v8)] (by decide) rfl dX12_bestBut_106 ?_
            refine ya_sub [(0, .ref (X.2.1 + 83)), (1, .int v1), (2, .int v2), (3, .int v3), (4, .int v4), (5, .int v5), (6, .int v6), (7, .int v8), (8, .int v8)] [1, 2, 3, 4, 5, 6, 7, 0, 8] rfl ?_
            exact hk108 _ h
          · refine ya_icmp_eq 104 (by decide) dX12_bestBut_84 (fun c => ?_) (fun c => ?_)
            · replace h := ya_itet h c
              refine ya_sub [(0, .ref (X.2.1 + 83)), (1, .int v1), (2, .int v2), (3, .int v3), (4, .int v4), (5, .int v5), (6, .int v6), (8, .int v8)] [0, 1, 2, 3, 4, 5, 6, 8] rfl ?_
              exact hk104  h
            · replace h := ya_itef h c
              refine ya_aload_n 0 rfl dX12_bestBut_87 ?_
              refine ya_iload_n 3 rfl dX12_bestBut_88 ?_
              refine ya_iload 8 rfl dX12_bestBut_89 ?_
              obtain ⟨x91, e91, h⟩ := ya_ob h
              refine ya_callVi (S := []) (c_X12_priceOf hG e91) m_X12_priceOf ⟨rfl, rfl⟩ ml_X12_263 rfl ⟨Nat.le_of_ble_eq_true rfl, Nat.le_of_ble_eq_true rfl⟩ (Nat.le_of_ble_eq_true rfl) (hG.lt0 83 (by decide)) (hG.o0 83 rfl) (by decide) rfl rfl ⟨Nat.le_refl _, Nat.le_refl _⟩ dX12_bestBut_91 rfl ?_
              refine ya_aload_n 0 rfl dX12_bestBut_94 ?_
              refine ya_iload_n 3 rfl dX12_bestBut_95 ?_
              refine ya_iload 7 rfl dX12_bestBut_96 ?_
              obtain ⟨x98, e98, h⟩ := ya_ob h
              refine ya_callVi (S := [.int x91]) (c_X12_priceOf hG e98) m_X12_priceOf ⟨rfl, rfl⟩ ml_X12_263 rfl ⟨Nat.le_of_ble_eq_true rfl, Nat.le_of_ble_eq_true rfl⟩ (Nat.le_of_ble_eq_true rfl) (hG.lt0 83 (by decide)) (hG.o0 83 rfl) (by decide) rfl rfl ⟨Nat.le_refl _, Nat.le_refl _⟩ dX12_bestBut_98 rfl ?_
              refine ya_icmp_le 108 (by decide) dX12_bestBut_101 (fun c => ?_) (fun c => ?_)
              · replace h := ya_itet h c
                exact hk108 _ h
              · replace h := ya_itef h c
                refine ya_sub [(0, .ref (X.2.1 + 83)), (1, .int v1), (2, .int v2), (3, .int v3), (4, .int v4), (5, .int v5), (6, .int v6), (8, .int v8)] [0, 1, 2, 3, 4, 5, 6, 8] rfl ?_
                exact hk104  h
set_option maxRecDepth 20000 in
theorem w_X12_bestBut_L43 {X : ya_X} {G : ya_G} {v1 : Int32} {v2 : Int32} {v3 : Int32} {rr : (Int32 × ya_D)} (hG : ya_Bk ya_sh ya_ln G 0) : ∀ (n : Nat) (v4 : Int32) (v5 : Int32) (v6 : Int32) (d : ya_D), f_X12_bestBut_L43 v1 v2 v3 n v4 v5 v6 d = some rr → ya_E X Y_X12_bestBut (ya_M X (some (.int rr.1), G, rr.2) 0 0) 43 [(0, .ref (X.2.1 + 83)), (1, .int v1), (2, .int v2), (3, .int v3), (4, .int v4), (5, .int v5), (6, .int v6)] [] G d 0 0 := by
  intro n
  induction n with
  | zero => intro v4 v5 v6 d h; cases h
  | succ n ih =>
    intro v4 v5 v6 d h
    rw [f_X12_bestBut_L43] at h
    refine ya_iload 6 rfl dX12_bestBut_43 ?_
    refine ya_aload_n 0 rfl dX12_bestBut_45 ?_
    refine ya_getR fo_X12_9 (hG.o0 83 rfl) (hG.lt0 83 (by decide)) (hG.l0 82 rfl) dX12_bestBut_46 ?_
    refine ya_iconst 0 (by decide) dX12_bestBut_49 ?_
    refine ya_iald (hG.s0 84 rfl) (hG.lt0 84 (by decide)) dX12_bestBut_50 h (fun x50 h => ?_)
    refine ya_icmp_ge 182 (by decide) dX12_bestBut_51 (fun c => ?_) (fun c => ?_)
    · replace h := ya_itet h c
      refine ya_iload 5 rfl dX12_bestBut_182 ?_
      cases h
      exact ya_iret rfl rfl rfl rfl rfl (Nat.le_refl _) dX12_bestBut_184
    · replace h := ya_itef h c
      refine ya_iconst (-1) (by decide) dX12_bestBut_54 ?_
      refine ya_istore [(7, .int (-1)), (0, .ref (X.2.1 + 83)), (1, .int v1), (2, .int v2), (3, .int v3), (4, .int v4), (5, .int v5), (6, .int v6)] (by decide) rfl dX12_bestBut_55 ?_
      refine ya_iconst 0 (by decide) dX12_bestBut_57 ?_
      refine ya_istore [(8, .int 0), (7, .int (-1)), (0, .ref (X.2.1 + 83)), (1, .int v1), (2, .int v2), (3, .int v3), (4, .int v4), (5, .int v5), (6, .int v6)] (by decide) rfl dX12_bestBut_58 ?_
      refine ya_sub [(0, .ref (X.2.1 + 83)), (1, .int v1), (2, .int v2), (3, .int v3), (4, .int v4), (5, .int v5), (6, .int v6), (7, .int (-1)), (8, .int 0)] [2, 3, 4, 5, 6, 7, 8, 1, 0] rfl ?_
      refine w_X12_bestBut_L60 hG (fun v7_114 h => ?_) ya_F _ _ h
      refine ya_iload 4 rfl dX12_bestBut_114 ?_
      refine ya_iconst 1 (by decide) dX12_bestBut_116 ?_
      refine ya_iload 7 rfl dX12_bestBut_117 ?_
      refine ya_ishl dX12_bestBut_119 ?_
      refine ya_ior dX12_bestBut_120 ?_
      refine ya_istore [(4, .int (v4 ||| ((1 : Int32) <<< (v7_114 &&& 31)))), (0, .ref (X.2.1 + 83)), (1, .int v1), (2, .int v2), (3, .int v3), (5, .int v5), (6, .int v6), (7, .int v7_114)] (by decide) rfl dX12_bestBut_121 ?_
      refine ya_iload 7 rfl dX12_bestBut_123 ?_
      refine ya_iload_n 3 rfl dX12_bestBut_125 ?_
      refine ya_j2_s h (fun v5_176 d_176 => ya_E X Y_X12_bestBut (ya_M X (some (.int rr.1), G, rr.2) 0 0) 176 [(0, .ref (X.2.1 + 83)), (1, .int v1), (2, .int v2), (3, .int v3), (4, .int (v4 ||| ((1 : Int32) <<< (v7_114 &&& 31)))), (5, .int v5_176), (6, .int v6)] [] G d_176 0 0) (fun v5_176 d_176 h => ?_) (fun k176 hk176 h => ?_)
      · refine ya_iinc (v6 + 1) rfl 6 rfl [(6, .int (v6 + 1)), (0, .ref (X.2.1 + 83)), (1, .int v1), (2, .int v2), (3, .int v3), (4, .int (v4 ||| ((1 : Int32) <<< (v7_114 &&& 31)))), (5, .int v5_176)] (by decide) rfl dX12_bestBut_176 ?_
        refine ya_goto 43 (by decide) dX12_bestBut_179 ?_
        refine ya_sub [(0, .ref (X.2.1 + 83)), (1, .int v1), (2, .int v2), (3, .int v3), (4, .int (v4 ||| ((1 : Int32) <<< (v7_114 &&& 31)))), (5, .int v5_176), (6, .int (v6 + 1))] [1, 2, 3, 4, 5, 6, 0] rfl ?_
        exact ih _ _ _ _ h
      · refine ya_icmp_eq 176 (by decide) dX12_bestBut_126 (fun c => ?_) (fun c => ?_)
        · replace h := ya_itet h c
          refine ya_sub [(0, .ref (X.2.1 + 83)), (1, .int v1), (2, .int v2), (3, .int v3), (4, .int (v4 ||| ((1 : Int32) <<< (v7_114 &&& 31)))), (5, .int v5), (6, .int v6)] [1, 2, 3, 4, 0, 5, 6] rfl ?_
          exact hk176 _ _ h
        · replace h := ya_itef h c
          refine ya_aload_n 1 rfl dX12_bestBut_129 ?_
          refine ya_iload_n 4 rfl dX12_bestBut_130 ?_
          refine ya_iload 7 rfl dX12_bestBut_131 ?_
          obtain ⟨x133, e133, h⟩ := ya_ob h
          refine ya_callVi (S := []) (c_X12_priceOf hG e133) m_X12_priceOf ⟨rfl, rfl⟩ ml_X12_263 rfl ⟨Nat.le_of_ble_eq_true rfl, Nat.le_of_ble_eq_true rfl⟩ (Nat.le_of_ble_eq_true rfl) (hG.lt0 83 (by decide)) (hG.o0 83 rfl) (by decide) rfl rfl ⟨Nat.le_refl _, Nat.le_refl _⟩ dX12_bestBut_133 rfl ?_
          refine ya_ifne 142 (by decide) dX12_bestBut_136 (fun c => ?_) (fun c => ?_)
          · replace h := ya_itef h c
            refine ya_aload_n 1 rfl dX12_bestBut_142 ?_
            refine ya_iload_n 2 rfl dX12_bestBut_143 ?_
            refine ya_iload 7 rfl dX12_bestBut_144 ?_
            refine ya_aload_n 1 rfl dX12_bestBut_146 ?_
            refine ya_iload_n 4 rfl dX12_bestBut_147 ?_
            refine ya_iload 7 rfl dX12_bestBut_148 ?_
            obtain ⟨x150, e150, h⟩ := ya_ob h
            refine ya_callVi (S := [.int v7_114, .int v1, .ref (X.2.1 + 83)]) (c_X12_askedOf hG e150) m_X12_askedOf ⟨rfl, rfl⟩ ml_X12_288 rfl ⟨Nat.le_of_ble_eq_true rfl, Nat.le_of_ble_eq_true rfl⟩ (Nat.le_of_ble_eq_true rfl) (hG.lt0 83 (by decide)) (hG.o0 83 rfl) (by decide) rfl rfl ⟨Nat.le_refl _, Nat.le_refl _⟩ dX12_bestBut_150 rfl ?_
            obtain ⟨d153, e153, h⟩ := ya_ob h
            refine ya_callVv (S := []) (c_X12_fillsUp hG e153) m_X12_fillsUp ⟨rfl, rfl⟩ ml_X12_347 rfl ⟨Nat.le_of_ble_eq_true rfl, Nat.le_of_ble_eq_true rfl⟩ (Nat.le_of_ble_eq_true rfl) (hG.lt0 83 (by decide)) (hG.o0 83 rfl) (by decide) rfl rfl ⟨Nat.le_refl _, Nat.le_refl _⟩ dX12_bestBut_153 rfl ?_
            refine ya_iload 5 rfl dX12_bestBut_156 ?_
            refine ya_aload_n 1 rfl dX12_bestBut_158 ?_
            refine ya_getR fo_X12_70 (hG.o0 83 rfl) (hG.lt0 83 (by decide)) (hG.l0 100 rfl) dX12_bestBut_159 ?_
            refine ya_iload 7 rfl dX12_bestBut_162 ?_
            refine ya_iald (hG.s0 102 rfl) (hG.lt0 102 (by decide)) dX12_bestBut_164 h (fun x164 h => ?_)
            refine ya_aload_n 1 rfl dX12_bestBut_165 ?_
            refine ya_iload_n 4 rfl dX12_bestBut_166 ?_
            refine ya_iload 7 rfl dX12_bestBut_167 ?_
            obtain ⟨x169, e169, h⟩ := ya_ob h
            refine ya_callVi (S := [.int x164, .int v5]) (c_X12_priceOf hG e169) m_X12_priceOf ⟨rfl, rfl⟩ ml_X12_263 rfl ⟨Nat.le_of_ble_eq_true rfl, Nat.le_of_ble_eq_true rfl⟩ (Nat.le_of_ble_eq_true rfl) (hG.lt0 83 (by decide)) (hG.o0 83 rfl) (by decide) rfl rfl ⟨Nat.le_refl _, Nat.le_refl _⟩ dX12_bestBut_169 rfl ?_
            refine ya_imul dX12_bestBut_172 ?_
            refine ya_iadd dX12_bestBut_173 ?_
            refine ya_istore [(5, .int (v5 + (x164 * x169))), (4, .int (v4 ||| ((1 : Int32) <<< (v7_114 &&& 31)))), (0, .ref (X.2.1 + 83)), (1, .int v1), (2, .int v2), (3, .int v3), (6, .int v6), (7, .int v7_114)] (by decide) rfl dX12_bestBut_174 ?_
            refine ya_sub [(0, .ref (X.2.1 + 83)), (1, .int v1), (2, .int v2), (3, .int v3), (4, .int (v4 ||| ((1 : Int32) <<< (v7_114 &&& 31)))), (5, .int (v5 + (x164 * x169))), (6, .int v6)] [2, 3, 4, 5, 1, 0, 6] rfl ?_
            exact hk176 _ _ h
          · replace h := ya_itet h c
            refine ya_goto 176 (by decide) dX12_bestBut_139 ?_
            refine ya_sub [(0, .ref (X.2.1 + 83)), (1, .int v1), (2, .int v2), (3, .int v3), (4, .int (v4 ||| ((1 : Int32) <<< (v7_114 &&& 31)))), (5, .int v5), (6, .int v6)] [1, 2, 3, 4, 0, 5, 6] rfl ?_
            exact hk176 _ _ h
set_option maxRecDepth 20000 in
theorem c_X12_bestBut {X : ya_X} {G : ya_G} {v1 : Int32} {v2 : Int32} {d : ya_D} {rr : (Int32 × ya_D)} (hG : ya_Bk ya_sh ya_ln G 0) (h : f_X12_bestBut v1 v2 d = some rr) : ya_Ct X yX12_bestBut Y_X12_bestBut [.ref (X.2.1 + 83), .int v1, .int v2] G d (some (.int rr.1), G, rr.2) := by
  refine ya_ct (by decide +kernel) rfl rfl (Nat.le_of_ble_eq_true rfl) ?_
  unfold f_X12_bestBut at h
  show ya_E X Y_X12_bestBut (ya_M X (some (.int rr.1), G, rr.2) 0 0) 0 [(0, .ref (X.2.1 + 83)), (1, .int v1), (2, .int v2)] [] G d 0 0
  refine ya_aload_n 0 rfl dX12_bestBut_0 ?_
  refine ya_iload_n 1 rfl dX12_bestBut_1 ?_
  obtain ⟨x2, e2, h⟩ := ya_ob h
  refine ya_callVi (S := []) (c_X12_thingOf hG e2) m_X12_thingOf ⟨rfl, rfl⟩ ml_X12_270 rfl ⟨Nat.le_of_ble_eq_true rfl, Nat.le_of_ble_eq_true rfl⟩ (Nat.le_of_ble_eq_true rfl) (hG.lt0 83 (by decide)) (hG.o0 83 rfl) (by decide) rfl rfl ⟨Nat.le_refl _, Nat.le_refl _⟩ dX12_bestBut_2 rfl ?_
  refine ya_istore_n [(3, .int x2), (0, .ref (X.2.1 + 83)), (1, .int v1), (2, .int v2)] (by decide) rfl dX12_bestBut_5 ?_
  refine ya_iconst 0 (by decide) dX12_bestBut_6 ?_
  refine ya_istore [(4, .int 0), (3, .int x2), (0, .ref (X.2.1 + 83)), (1, .int v1), (2, .int v2)] (by decide) rfl dX12_bestBut_7 ?_
  refine ya_iconst 0 (by decide) dX12_bestBut_9 ?_
  refine ya_istore [(5, .int 0), (4, .int 0), (3, .int x2), (0, .ref (X.2.1 + 83)), (1, .int v1), (2, .int v2)] (by decide) rfl dX12_bestBut_10 ?_
  refine ya_iconst 0 (by decide) dX12_bestBut_12 ?_
  refine ya_istore [(6, .int 0), (5, .int 0), (4, .int 0), (3, .int x2), (0, .ref (X.2.1 + 83)), (1, .int v1), (2, .int v2)] (by decide) rfl dX12_bestBut_13 ?_
  refine ya_sub [(0, .ref (X.2.1 + 83)), (1, .int v1), (2, .int v2), (3, .int x2), (4, .int 0), (5, .int 0), (6, .int 0)] [4, 5, 6, 3, 2, 1, 0] rfl ?_
  refine w_X12_bestBut_L15 hG (fun d_40 h => ?_) ya_F _ _ h
  refine ya_iconst 0 (by decide) dX12_bestBut_40 ?_
  refine ya_istore [(6, .int 0), (0, .ref (X.2.1 + 83)), (1, .int v1), (2, .int v2), (3, .int x2), (4, .int 0), (5, .int 0)] (by decide) rfl dX12_bestBut_41 ?_
  refine ya_sub [(0, .ref (X.2.1 + 83)), (1, .int v1), (2, .int v2), (3, .int x2), (4, .int 0), (5, .int 0), (6, .int 0)] [1, 2, 3, 4, 5, 6, 0] rfl ?_
  refine w_X12_bestBut_L43 hG  ya_F _ _ _ _ h
set_option maxRecDepth 20000 in
theorem c_X12_best {X : ya_X} {G : ya_G} {v1 : Int32} {d : ya_D} {rr : (Int32 × ya_D)} (hG : ya_Bk ya_sh ya_ln G 0) (h : f_X12_best v1 d = some rr) : ya_Ct X yX12_best Y_X12_best [.ref (X.2.1 + 83), .int v1] G d (some (.int rr.1), G, rr.2) := by
  refine ya_ct (by decide +kernel) rfl rfl (Nat.le_of_ble_eq_true rfl) ?_
  unfold f_X12_best at h
  show ya_E X Y_X12_best (ya_M X (some (.int rr.1), G, rr.2) 0 0) 0 [(0, .ref (X.2.1 + 83)), (1, .int v1)] [] G d 0 0
  refine ya_aload_n 0 rfl dX12_best_0 ?_
  refine ya_iload_n 1 rfl dX12_best_1 ?_
  obtain ⟨x2, e2, h⟩ := ya_ob h
  refine ya_callVi (S := []) (c_X12_isSeller hG e2) m_X12_isSeller ⟨rfl, rfl⟩ ml_X12_315 rfl ⟨Nat.le_of_ble_eq_true rfl, Nat.le_of_ble_eq_true rfl⟩ (Nat.le_of_ble_eq_true rfl) (hG.lt0 83 (by decide)) (hG.o0 83 rfl) (by decide) rfl rfl ⟨Nat.le_refl _, Nat.le_refl _⟩ dX12_best_2 rfl ?_
  refine ya_ifeq 17 (by decide) dX12_best_5 (fun c => ?_) (fun c => ?_)
  · replace h := ya_itet h c
    refine ya_bipush (-2) (by decide) dX12_best_17 ?_
    cases h
    exact ya_iret rfl rfl rfl rfl rfl (Nat.le_refl _) dX12_best_19
  · replace h := ya_itef h c
    refine ya_aload_n 0 rfl dX12_best_8 ?_
    refine ya_iload_n 1 rfl dX12_best_9 ?_
    refine ya_iconst (-1) (by decide) dX12_best_10 ?_
    obtain ⟨x11, d11, e11, h⟩ := ya_ob2 h
    refine ya_callVi (S := []) (c_X12_bestBut hG e11) m_X12_bestBut ⟨rfl, rfl⟩ ml_X12_350 rfl ⟨Nat.le_of_ble_eq_true rfl, Nat.le_of_ble_eq_true rfl⟩ (Nat.le_of_ble_eq_true rfl) (hG.lt0 83 (by decide)) (hG.o0 83 rfl) (by decide) rfl rfl ⟨Nat.le_refl _, Nat.le_refl _⟩ dX12_best_11 rfl ?_
    refine ya_goto 19 (by decide) dX12_best_14 ?_
    cases h
    exact ya_iret rfl rfl rfl rfl rfl (Nat.le_refl _) dX12_best_19
set_option maxRecDepth 20000 in
theorem c_X12_worth {X : ya_X} {G : ya_G} {v1 : Int32} {v2 : Int32} {d : ya_D} {rr : (Int32 × ya_D)} (hG : ya_Bk ya_sh ya_ln G 0) (h : f_X12_worth v1 v2 d = some rr) : ya_Ct X yX12_worth Y_X12_worth [.ref (X.2.1 + 83), .int v1, .int v2] G d (some (.int rr.1), G, rr.2) := by
  refine ya_ct (by decide +kernel) rfl rfl (Nat.le_of_ble_eq_true rfl) ?_
  unfold f_X12_worth at h
  show ya_E X Y_X12_worth (ya_M X (some (.int rr.1), G, rr.2) 0 0) 0 [(0, .ref (X.2.1 + 83)), (1, .int v1), (2, .int v2)] [] G d 0 0
  refine ya_aload_n 0 rfl dX12_worth_0 ?_
  refine ya_iload_n 1 rfl dX12_worth_1 ?_
  obtain ⟨x2, e2, h⟩ := ya_ob h
  refine ya_callVi (S := []) (c_X12_isSeller hG e2) m_X12_isSeller ⟨rfl, rfl⟩ ml_X12_315 rfl ⟨Nat.le_of_ble_eq_true rfl, Nat.le_of_ble_eq_true rfl⟩ (Nat.le_of_ble_eq_true rfl) (hG.lt0 83 (by decide)) (hG.o0 83 rfl) (by decide) rfl rfl ⟨Nat.le_refl _, Nat.le_refl _⟩ dX12_worth_2 rfl ?_
  refine ya_j0_s h (ya_E X Y_X12_worth (ya_M X (some (.int rr.1), G, rr.2) 0 0) 33 [] [] G d 0 0) (fun h => ?_) (fun k33 hk33 h => ?_)
  · refine ya_bipush (-2) (by decide) dX12_worth_33 ?_
    cases h
    exact ya_iret rfl rfl rfl rfl rfl (Nat.le_refl _) dX12_worth_35
  · refine ya_ifeq 33 (by decide) dX12_worth_5 (fun c => ?_) (fun c => ?_)
    · replace h := ya_itet h c
      refine ya_sub [] [] rfl ?_
      exact hk33  h
    · replace h := ya_itef h c
      refine ya_aload_n 0 rfl dX12_worth_8 ?_
      refine ya_iload_n 2 rfl dX12_worth_9 ?_
      refine ya_i2l dX12_worth_10 ?_
      obtain ⟨x11, e11, h⟩ := ya_ob h
      refine ya_callVi (S := []) (c_X12_isDay hG e11) m_X12_isDay ⟨rfl, rfl⟩ ml_X12_102 rfl ⟨Nat.le_of_ble_eq_true rfl, Nat.le_of_ble_eq_true rfl⟩ (Nat.le_of_ble_eq_true rfl) (hG.lt0 83 (by decide)) (hG.o0 83 rfl) (by decide) rfl rfl ⟨Nat.le_refl _, Nat.le_refl _⟩ dX12_worth_11 rfl ?_
      refine ya_ifeq 33 (by decide) dX12_worth_14 (fun c => ?_) (fun c => ?_)
      · replace h := ya_itet h c
        refine ya_sub [] [] rfl ?_
        exact hk33  h
      · replace h := ya_itef h c
        refine ya_aload_n 0 rfl dX12_worth_17 ?_
        refine ya_iload_n 1 rfl dX12_worth_18 ?_
        refine ya_iconst (-1) (by decide) dX12_worth_19 ?_
        obtain ⟨x20, d20, e20, h⟩ := ya_ob2 h
        refine ya_callVi (S := []) (c_X12_bestBut hG e20) m_X12_bestBut ⟨rfl, rfl⟩ ml_X12_350 rfl ⟨Nat.le_of_ble_eq_true rfl, Nat.le_of_ble_eq_true rfl⟩ (Nat.le_of_ble_eq_true rfl) (hG.lt0 83 (by decide)) (hG.o0 83 rfl) (by decide) rfl rfl ⟨Nat.le_refl _, Nat.le_refl _⟩ dX12_worth_20 rfl ?_
        refine ya_aload_n 0 rfl dX12_worth_23 ?_
        refine ya_iload_n 1 rfl dX12_worth_24 ?_
        refine ya_iload_n 2 rfl dX12_worth_25 ?_
        obtain ⟨x26, d26, e26, h⟩ := ya_ob2 h
        refine ya_callVi (S := [.int x20]) (c_X12_bestBut hG e26) m_X12_bestBut ⟨rfl, rfl⟩ ml_X12_350 rfl ⟨Nat.le_of_ble_eq_true rfl, Nat.le_of_ble_eq_true rfl⟩ (Nat.le_of_ble_eq_true rfl) (hG.lt0 83 (by decide)) (hG.o0 83 rfl) (by decide) rfl rfl ⟨Nat.le_refl _, Nat.le_refl _⟩ dX12_worth_26 rfl ?_
        refine ya_isub dX12_worth_29 ?_
        refine ya_goto 35 (by decide) dX12_worth_30 ?_
        cases h
        exact ya_iret rfl rfl rfl rfl rfl (Nat.le_refl _) dX12_worth_35
set_option maxRecDepth 20000 in
theorem w_X12_thursday_L34 {X : ya_X} {G : ya_G} {v1 : Int32} {rr : (Int32 × ya_D)} (hG : ya_Bk ya_sh ya_ln G 0) : ∀ (n : Nat) (v2 : Int32) (v3 : Int32) (v4 : Int32) (d : ya_D), f_X12_thursday_L34 v1 n v2 v3 v4 d = some rr → ya_E X Y_X12_thursday (ya_M X (some (.int rr.1), G, rr.2) 0 0) 34 [(0, .ref (X.2.1 + 83)), (1, .int v1), (2, .int v2), (3, .int v3), (4, .int v4)] [] G d 0 0 := by
  intro n
  induction n with
  | zero => intro v2 v3 v4 d h; cases h
  | succ n ih =>
    intro v2 v3 v4 d h
    rw [f_X12_thursday_L34] at h
    refine ya_iload 4 rfl dX12_thursday_34 ?_
    refine ya_aload_n 0 rfl dX12_thursday_36 ?_
    refine ya_getR fo_X12_9 (hG.o0 83 rfl) (hG.lt0 83 (by decide)) (hG.l0 82 rfl) dX12_thursday_37 ?_
    refine ya_iconst 0 (by decide) dX12_thursday_40 ?_
    refine ya_iald (hG.s0 84 rfl) (hG.lt0 84 (by decide)) dX12_thursday_41 h (fun x41 h => ?_)
    refine ya_icmp_ge 75 (by decide) dX12_thursday_42 (fun c => ?_) (fun c => ?_)
    · replace h := ya_itet h c
      refine ya_iload_n 2 rfl dX12_thursday_75 ?_
      cases h
      exact ya_iret rfl rfl rfl rfl rfl (Nat.le_refl _) dX12_thursday_76
    · replace h := ya_itef h c
      refine ya_aload_n 0 rfl dX12_thursday_45 ?_
      refine ya_iload_n 1 rfl dX12_thursday_46 ?_
      refine ya_iload 4 rfl dX12_thursday_47 ?_
      obtain ⟨x49, d49, e49, h⟩ := ya_ob2 h
      refine ya_callVi (S := []) (c_X12_bestBut hG e49) m_X12_bestBut ⟨rfl, rfl⟩ ml_X12_350 rfl ⟨Nat.le_of_ble_eq_true rfl, Nat.le_of_ble_eq_true rfl⟩ (Nat.le_of_ble_eq_true rfl) (hG.lt0 83 (by decide)) (hG.o0 83 rfl) (by decide) rfl rfl ⟨Nat.le_refl _, Nat.le_refl _⟩ dX12_thursday_49 rfl ?_
      refine ya_istore [(5, .int x49), (0, .ref (X.2.1 + 83)), (1, .int v1), (2, .int v2), (3, .int v3), (4, .int v4)] (by decide) rfl dX12_thursday_52 ?_
      refine ya_iload 0 rfl dX12_thursday_54 ?_
      refine ya_iload_n 4 rfl dX12_thursday_56 ?_
      refine ya_j2_s h (fun v2_69 v3_69 => ya_E X Y_X12_thursday (ya_M X (some (.int rr.1), G, rr.2) 0 0) 69 [(0, .ref (X.2.1 + 83)), (1, .int v1), (2, .int v2_69), (3, .int v3_69), (4, .int v4)] [] G d49 0 0) (fun v2_69 v3_69 h => ?_) (fun k69 hk69 h => ?_)
      · refine ya_iinc (v4 + 1) rfl 4 rfl [(4, .int (v4 + 1)), (0, .ref (X.2.1 + 83)), (1, .int v1), (2, .int v2_69), (3, .int v3_69)] (by decide) rfl dX12_thursday_69 ?_
        refine ya_goto 34 (by decide) dX12_thursday_72 ?_
        refine ya_sub [(0, .ref (X.2.1 + 83)), (1, .int v1), (2, .int v2_69), (3, .int v3_69), (4, .int (v4 + 1))] [1, 2, 3, 4, 0] rfl ?_
        exact ih _ _ _ _ h
      · refine ya_icmp_lt 63 (by decide) dX12_thursday_57 (fun c => ?_) (fun c => ?_)
        · replace h := ya_itet h c
          refine ya_iload 5 rfl dX12_thursday_63 ?_
          refine ya_istore_n [(2, .int v4), (5, .int x49), (0, .ref (X.2.1 + 83)), (1, .int v1), (3, .int v3), (4, .int v4)] (by decide) rfl dX12_thursday_65 ?_
          refine ya_iload 1 rfl dX12_thursday_66 ?_
          refine ya_istore_n [(3, .int x49), (2, .int v4), (5, .int x49), (0, .ref (X.2.1 + 83)), (1, .int v1), (4, .int v4)] (by decide) rfl dX12_thursday_68 ?_
          refine ya_sub [(0, .ref (X.2.1 + 83)), (1, .int v1), (2, .int v4), (3, .int x49), (4, .int v4)] [3, 4, 1, 0, 5] rfl ?_
          exact hk69 _ _ h
        · replace h := ya_itef h c
          refine ya_goto 69 (by decide) dX12_thursday_60 ?_
          refine ya_sub [(0, .ref (X.2.1 + 83)), (1, .int v1), (2, .int v2), (3, .int v3), (4, .int v4)] [1, 2, 3, 4, 5] rfl ?_
          exact hk69 _ _ h
set_option maxRecDepth 20000 in
theorem c_X12_thursday {X : ya_X} {G : ya_G} {v1 : Int32} {d : ya_D} {rr : (Int32 × ya_D)} (hG : ya_Bk ya_sh ya_ln G 0) (h : f_X12_thursday v1 d = some rr) : ya_Ct X yX12_thursday Y_X12_thursday [.ref (X.2.1 + 83), .int v1] G d (some (.int rr.1), G, rr.2) := by
  refine ya_ct (by decide +kernel) rfl rfl (Nat.le_of_ble_eq_true rfl) ?_
  unfold f_X12_thursday at h
  show ya_E X Y_X12_thursday (ya_M X (some (.int rr.1), G, rr.2) 0 0) 0 [(0, .ref (X.2.1 + 83)), (1, .int v1)] [] G d 0 0
  refine ya_aload_n 0 rfl dX12_thursday_0 ?_
  refine ya_iload_n 1 rfl dX12_thursday_1 ?_
  obtain ⟨x2, e2, h⟩ := ya_ob h
  refine ya_callVi (S := []) (c_X12_isSeller hG e2) m_X12_isSeller ⟨rfl, rfl⟩ ml_X12_315 rfl ⟨Nat.le_of_ble_eq_true rfl, Nat.le_of_ble_eq_true rfl⟩ (Nat.le_of_ble_eq_true rfl) (hG.lt0 83 (by decide)) (hG.o0 83 rfl) (by decide) rfl rfl ⟨Nat.le_refl _, Nat.le_refl _⟩ dX12_thursday_2 rfl ?_
  refine ya_ifne 11 (by decide) dX12_thursday_5 (fun c => ?_) (fun c => ?_)
  · replace h := ya_itef h c
    refine ya_aload_n 0 rfl dX12_thursday_11 ?_
    refine ya_iload_n 1 rfl dX12_thursday_12 ?_
    refine ya_iconst (-1) (by decide) dX12_thursday_13 ?_
    obtain ⟨x14, d14, e14, h⟩ := ya_ob2 h
    refine ya_callVi (S := []) (c_X12_bestBut hG e14) m_X12_bestBut ⟨rfl, rfl⟩ ml_X12_350 rfl ⟨Nat.le_of_ble_eq_true rfl, Nat.le_of_ble_eq_true rfl⟩ (Nat.le_of_ble_eq_true rfl) (hG.lt0 83 (by decide)) (hG.o0 83 rfl) (by decide) rfl rfl ⟨Nat.le_refl _, Nat.le_refl _⟩ dX12_thursday_14 rfl ?_
    refine ya_ifne 22 (by decide) dX12_thursday_17 (fun c => ?_) (fun c => ?_)
    · replace h := ya_itef h c
      refine ya_iconst 0 (by decide) dX12_thursday_22 ?_
      refine ya_istore_n [(2, .int 0), (0, .ref (X.2.1 + 83)), (1, .int v1)] (by decide) rfl dX12_thursday_23 ?_
      refine ya_aload_n 1 rfl dX12_thursday_24 ?_
      refine ya_iload_n 2 rfl dX12_thursday_25 ?_
      refine ya_iconst 0 (by decide) dX12_thursday_26 ?_
      obtain ⟨x27, d27, e27, h⟩ := ya_ob2 h
      refine ya_callVi (S := []) (c_X12_bestBut hG e27) m_X12_bestBut ⟨rfl, rfl⟩ ml_X12_350 rfl ⟨Nat.le_of_ble_eq_true rfl, Nat.le_of_ble_eq_true rfl⟩ (Nat.le_of_ble_eq_true rfl) (hG.lt0 83 (by decide)) (hG.o0 83 rfl) (by decide) rfl rfl ⟨Nat.le_refl _, Nat.le_refl _⟩ dX12_thursday_27 rfl ?_
      refine ya_istore_n [(3, .int x27), (2, .int 0), (0, .ref (X.2.1 + 83)), (1, .int v1)] (by decide) rfl dX12_thursday_30 ?_
      refine ya_iconst 1 (by decide) dX12_thursday_31 ?_
      refine ya_istore [(4, .int 1), (3, .int x27), (2, .int 0), (0, .ref (X.2.1 + 83)), (1, .int v1)] (by decide) rfl dX12_thursday_32 ?_
      refine ya_sub [(0, .ref (X.2.1 + 83)), (1, .int v1), (2, .int 0), (3, .int x27), (4, .int 1)] [3, 4, 2, 1, 0] rfl ?_
      refine w_X12_thursday_L34 hG  ya_F _ _ _ _ h
    · replace h := ya_itet h c
      refine ya_iconst (-1) (by decide) dX12_thursday_20 ?_
      cases h
      exact ya_iret rfl rfl rfl rfl rfl (Nat.le_refl _) dX12_thursday_21
  · replace h := ya_itet h c
    refine ya_bipush (-2) (by decide) dX12_thursday_8 ?_
    cases h
    exact ya_iret rfl rfl rfl rfl rfl (Nat.le_refl _) dX12_thursday_10
set_option maxRecDepth 20000 in
theorem c_X12_setAsks {X : ya_X} {G : ya_G} {v1 : Int32} {v2 : Int32} {d : ya_D} {rr : ya_D} (hG : ya_Bk ya_sh ya_ln G 0) (h : f_X12_setAsks v1 v2 d = some rr) : ya_Ct X yX12_setAsks Y_X12_setAsks [.ref (X.2.1 + 83), .int v1, .int v2] G d (none, G, rr) := by
  refine ya_ct (by decide +kernel) rfl rfl (Nat.le_of_ble_eq_true rfl) ?_
  unfold f_X12_setAsks at h
  show ya_E X Y_X12_setAsks (ya_M X (none, G, rr) 0 0) 0 [(0, .ref (X.2.1 + 83)), (1, .int v1), (2, .int v2)] [] G d 0 0
  refine ya_aload_n 0 rfl dX12_setAsks_0 ?_
  refine ya_getR fo_X12_9 (hG.o0 83 rfl) (hG.lt0 83 (by decide)) (hG.l0 82 rfl) dX12_setAsks_1 ?_
  refine ya_sipush 311 (by decide) dX12_setAsks_4 ?_
  refine ya_iconst 3 (by decide) dX12_setAsks_7 ?_
  refine ya_iload_n 1 rfl dX12_setAsks_8 ?_
  refine ya_imul dX12_setAsks_9 ?_
  refine ya_iadd dX12_setAsks_10 ?_
  refine ya_iconst 1 (by decide) dX12_setAsks_11 ?_
  refine ya_iadd dX12_setAsks_12 ?_
  refine ya_iload_n 2 rfl dX12_setAsks_13 ?_
  refine ya_iast (hG.s0 84 rfl) (hG.lt0 84 (by decide)) dX12_setAsks_14 h (fun d14 h => ?_)
  cases h
  exact ya_vret rfl rfl rfl rfl rfl (Nat.le_refl _) dX12_setAsks_15
set_option maxRecDepth 20000 in
theorem w_X12_asks_L26 {X : ya_X} {G : ya_G} {v1 : Int32} {v2 : Int32} {rr : (Int32 × ya_D)} (hG : ya_Bk ya_sh ya_ln G 0) : ∀ (n : Nat) (v3 : Int32) (v4 : Int32) (v5 : Int32) (d : ya_D), f_X12_asks_L26 v1 v2 n v3 v4 v5 d = some rr → ya_E X Y_X12_asks (ya_M X (some (.int rr.1), G, rr.2) 0 0) 26 [(0, .ref (X.2.1 + 83)), (1, .int v1), (2, .int v2), (3, .int v3), (4, .int v4), (5, .int v5)] [] G d 0 0 := by
  intro n
  induction n with
  | zero => intro v3 v4 v5 d h; cases h
  | succ n ih =>
    intro v3 v4 v5 d h
    rw [f_X12_asks_L26] at h
    refine ya_iload 5 rfl dX12_asks_26 ?_
    refine ya_bipush 99 (by decide) dX12_asks_28 ?_
    refine ya_icmp_gt 74 (by decide) dX12_asks_30 (fun c => ?_) (fun c => ?_)
    · replace h := ya_itet h c
      refine ya_aload_n 0 rfl dX12_asks_74 ?_
      refine ya_iload_n 1 rfl dX12_asks_75 ?_
      refine ya_iload_n 2 rfl dX12_asks_76 ?_
      obtain ⟨d77, e77, h⟩ := ya_ob h
      refine ya_callVv (S := []) (c_X12_setAsks hG e77) m_X12_setAsks ⟨rfl, rfl⟩ ml_X12_353 rfl ⟨Nat.le_of_ble_eq_true rfl, Nat.le_of_ble_eq_true rfl⟩ (Nat.le_of_ble_eq_true rfl) (hG.lt0 83 (by decide)) (hG.o0 83 rfl) (by decide) rfl rfl ⟨Nat.le_refl _, Nat.le_refl _⟩ dX12_asks_77 rfl ?_
      refine ya_iload_n 3 rfl dX12_asks_80 ?_
      cases h
      exact ya_iret rfl rfl rfl rfl rfl (Nat.le_refl _) dX12_asks_81
    · replace h := ya_itef h c
      refine ya_aload_n 0 rfl dX12_asks_33 ?_
      refine ya_iload_n 1 rfl dX12_asks_34 ?_
      refine ya_iload 5 rfl dX12_asks_35 ?_
      obtain ⟨d37, e37, h⟩ := ya_ob h
      refine ya_callVv (S := []) (c_X12_setAsks hG e37) m_X12_setAsks ⟨rfl, rfl⟩ ml_X12_353 rfl ⟨Nat.le_of_ble_eq_true rfl, Nat.le_of_ble_eq_true rfl⟩ (Nat.le_of_ble_eq_true rfl) (hG.lt0 83 (by decide)) (hG.o0 83 rfl) (by decide) rfl rfl ⟨Nat.le_refl _, Nat.le_refl _⟩ dX12_asks_37 rfl ?_
      refine ya_aload_n 0 rfl dX12_asks_40 ?_
      refine ya_lconst 1 rfl dX12_asks_41 ?_
      obtain ⟨d42, e42, h⟩ := ya_ob h
      refine ya_callVv (S := []) (c_X12_runs hG e42) m_X12_runs ⟨rfl, rfl⟩ ml_X12_311 rfl ⟨Nat.le_of_ble_eq_true rfl, Nat.le_of_ble_eq_true rfl⟩ (Nat.le_of_ble_eq_true rfl) (hG.lt0 83 (by decide)) (hG.o0 83 rfl) (by decide) rfl rfl ⟨Nat.le_refl _, Nat.le_refl _⟩ dX12_asks_42 rfl ?_
      refine ya_aload_n 0 rfl dX12_asks_45 ?_
      refine ya_iload_n 1 rfl dX12_asks_46 ?_
      obtain ⟨x47, e47, h⟩ := ya_ob h
      refine ya_callVi (S := []) (c_X12_allGets hG e47) m_X12_allGets ⟨rfl, rfl⟩ ml_X12_321 rfl ⟨Nat.le_of_ble_eq_true rfl, Nat.le_of_ble_eq_true rfl⟩ (Nat.le_of_ble_eq_true rfl) (hG.lt0 83 (by decide)) (hG.o0 83 rfl) (by decide) rfl rfl ⟨Nat.le_refl _, Nat.le_refl _⟩ dX12_asks_47 rfl ?_
      refine ya_iload 4 rfl dX12_asks_50 ?_
      refine ya_j2_s h (fun v3_68 v4_68 => ya_E X Y_X12_asks (ya_M X (some (.int rr.1), G, rr.2) 0 0) 68 [(0, .ref (X.2.1 + 83)), (1, .int v1), (2, .int v2), (3, .int v3_68), (4, .int v4_68), (5, .int v5)] [] G d42 0 0) (fun v3_68 v4_68 h => ?_) (fun k68 hk68 h => ?_)
      · refine ya_iinc (v5 + 1) rfl 5 rfl [(5, .int (v5 + 1)), (0, .ref (X.2.1 + 83)), (1, .int v1), (2, .int v2), (3, .int v3_68), (4, .int v4_68)] (by decide) rfl dX12_asks_68 ?_
        refine ya_goto 26 (by decide) dX12_asks_71 ?_
        refine ya_sub [(0, .ref (X.2.1 + 83)), (1, .int v1), (2, .int v2), (3, .int v3_68), (4, .int v4_68), (5, .int (v5 + 1))] [1, 2, 3, 4, 5, 0] rfl ?_
        exact ih _ _ _ _ h
      · refine ya_icmp_gt 58 (by decide) dX12_asks_52 (fun c => ?_) (fun c => ?_)
        · replace h := ya_itet h c
          refine ya_iload 5 rfl dX12_asks_58 ?_
          refine ya_istore_n [(3, .int v5), (0, .ref (X.2.1 + 83)), (1, .int v1), (2, .int v2), (4, .int v4), (5, .int v5)] (by decide) rfl dX12_asks_60 ?_
          refine ya_aload_n 1 rfl dX12_asks_61 ?_
          refine ya_iload_n 2 rfl dX12_asks_62 ?_
          obtain ⟨x63, e63, h⟩ := ya_ob h
          refine ya_callVi (S := []) (c_X12_allGets hG e63) m_X12_allGets ⟨rfl, rfl⟩ ml_X12_321 rfl ⟨Nat.le_of_ble_eq_true rfl, Nat.le_of_ble_eq_true rfl⟩ (Nat.le_of_ble_eq_true rfl) (hG.lt0 83 (by decide)) (hG.o0 83 rfl) (by decide) rfl rfl ⟨Nat.le_refl _, Nat.le_refl _⟩ dX12_asks_63 rfl ?_
          refine ya_istore [(4, .int x63), (3, .int v5), (0, .ref (X.2.1 + 83)), (1, .int v1), (2, .int v2), (5, .int v5)] (by decide) rfl dX12_asks_66 ?_
          refine ya_sub [(0, .ref (X.2.1 + 83)), (1, .int v1), (2, .int v2), (3, .int v5), (4, .int x63), (5, .int v5)] [2, 3, 4, 1, 0, 5] rfl ?_
          exact hk68 _ _ h
        · replace h := ya_itef h c
          refine ya_goto 68 (by decide) dX12_asks_55 ?_
          exact hk68 _ _ h
set_option maxRecDepth 20000 in
theorem c_X12_asks {X : ya_X} {G : ya_G} {v1 : Int32} {d : ya_D} {rr : (Int32 × ya_D)} (hG : ya_Bk ya_sh ya_ln G 0) (h : f_X12_asks v1 d = some rr) : ya_Ct X yX12_asks Y_X12_asks [.ref (X.2.1 + 83), .int v1] G d (some (.int rr.1), G, rr.2) := by
  refine ya_ct (by decide +kernel) rfl rfl (Nat.le_of_ble_eq_true rfl) ?_
  unfold f_X12_asks at h
  show ya_E X Y_X12_asks (ya_M X (some (.int rr.1), G, rr.2) 0 0) 0 [(0, .ref (X.2.1 + 83)), (1, .int v1)] [] G d 0 0
  refine ya_aload_n 0 rfl dX12_asks_0 ?_
  refine ya_iload_n 1 rfl dX12_asks_1 ?_
  obtain ⟨x2, e2, h⟩ := ya_ob h
  refine ya_callVi (S := []) (c_X12_isSeller hG e2) m_X12_isSeller ⟨rfl, rfl⟩ ml_X12_315 rfl ⟨Nat.le_of_ble_eq_true rfl, Nat.le_of_ble_eq_true rfl⟩ (Nat.le_of_ble_eq_true rfl) (hG.lt0 83 (by decide)) (hG.o0 83 rfl) (by decide) rfl rfl ⟨Nat.le_refl _, Nat.le_refl _⟩ dX12_asks_2 rfl ?_
  refine ya_ifne 11 (by decide) dX12_asks_5 (fun c => ?_) (fun c => ?_)
  · replace h := ya_itef h c
    refine ya_aload_n 0 rfl dX12_asks_11 ?_
    refine ya_iload_n 1 rfl dX12_asks_12 ?_
    refine ya_iconst 1 (by decide) dX12_asks_13 ?_
    obtain ⟨x14, e14, h⟩ := ya_ob h
    refine ya_callVi (S := []) (c_X12_seller3 hG e14) m_X12_seller3 ⟨rfl, rfl⟩ ml_X12_109 rfl ⟨Nat.le_of_ble_eq_true rfl, Nat.le_of_ble_eq_true rfl⟩ (Nat.le_of_ble_eq_true rfl) (hG.lt0 83 (by decide)) (hG.o0 83 rfl) (by decide) rfl rfl ⟨Nat.le_refl _, Nat.le_refl _⟩ dX12_asks_14 rfl ?_
    refine ya_istore_n [(2, .int x14), (0, .ref (X.2.1 + 83)), (1, .int v1)] (by decide) rfl dX12_asks_17 ?_
    refine ya_iconst (-1) (by decide) dX12_asks_18 ?_
    refine ya_istore_n [(3, .int (-1)), (2, .int x14), (0, .ref (X.2.1 + 83)), (1, .int v1)] (by decide) rfl dX12_asks_19 ?_
    refine ya_iconst (-1) (by decide) dX12_asks_20 ?_
    refine ya_istore [(4, .int (-1)), (3, .int (-1)), (2, .int x14), (0, .ref (X.2.1 + 83)), (1, .int v1)] (by decide) rfl dX12_asks_21 ?_
    refine ya_iconst 0 (by decide) dX12_asks_23 ?_
    refine ya_istore [(5, .int 0), (4, .int (-1)), (3, .int (-1)), (2, .int x14), (0, .ref (X.2.1 + 83)), (1, .int v1)] (by decide) rfl dX12_asks_24 ?_
    refine ya_sub [(0, .ref (X.2.1 + 83)), (1, .int v1), (2, .int x14), (3, .int (-1)), (4, .int (-1)), (5, .int 0)] [4, 5, 3, 2, 1, 0] rfl ?_
    refine w_X12_asks_L26 hG  ya_F _ _ _ _ h
  · replace h := ya_itet h c
    refine ya_bipush (-2) (by decide) dX12_asks_8 ?_
    cases h
    exact ya_iret rfl rfl rfl rfl rfl (Nat.le_refl _) dX12_asks_10
set_option maxRecDepth 20000 in
theorem c_X12_hold {X : ya_X} {G : ya_G} {v1 : Int32} {v2 : Int32} {d : ya_D} {rr : (Int32 × ya_D)} (hG : ya_Bk ya_sh ya_ln G 0) (h : f_X12_hold v1 v2 d = some rr) : ya_Ct X yX12_hold Y_X12_hold [.ref (X.2.1 + 83), .int v1, .int v2] G d (some (.int rr.1), G, rr.2) := by
  refine ya_ct (by decide +kernel) rfl rfl (Nat.le_of_ble_eq_true rfl) ?_
  unfold f_X12_hold at h
  show ya_E X Y_X12_hold (ya_M X (some (.int rr.1), G, rr.2) 0 0) 0 [(0, .ref (X.2.1 + 83)), (1, .int v1), (2, .int v2)] [] G d 0 0
  refine ya_aload_n 0 rfl dX12_hold_0 ?_
  refine ya_iload_n 1 rfl dX12_hold_1 ?_
  obtain ⟨x2, e2, h⟩ := ya_ob h
  refine ya_callVi (S := []) (c_X12_isSeller hG e2) m_X12_isSeller ⟨rfl, rfl⟩ ml_X12_315 rfl ⟨Nat.le_of_ble_eq_true rfl, Nat.le_of_ble_eq_true rfl⟩ (Nat.le_of_ble_eq_true rfl) (hG.lt0 83 (by decide)) (hG.o0 83 rfl) (by decide) rfl rfl ⟨Nat.le_refl _, Nat.le_refl _⟩ dX12_hold_2 rfl ?_
  refine ya_j0_s h (ya_E X Y_X12_hold (ya_M X (some (.int rr.1), G, rr.2) 0 0) 20 [] [] G d 0 0) (fun h => ?_) (fun k20 hk20 h => ?_)
  · refine ya_bipush (-2) (by decide) dX12_hold_20 ?_
    cases h
    exact ya_iret rfl rfl rfl rfl rfl (Nat.le_refl _) dX12_hold_22
  · refine ya_ifeq 20 (by decide) dX12_hold_5 (fun c => ?_) (fun c => ?_)
    · replace h := ya_itet h c
      refine ya_sub [] [] rfl ?_
      exact hk20  h
    · replace h := ya_itef h c
      refine ya_iload_n 2 rfl dX12_hold_8 ?_
      refine ya_i2l dX12_hold_9 ?_
      refine ya_lconst 0 rfl dX12_hold_10 ?_
      refine ya_ldc2 99 kc_X12_356 dX12_hold_11 ?_
      obtain ⟨x14, e14, h⟩ := ya_ob h
      refine ya_callSi (S := []) (c_X12_in hG e14) m_X12_in ⟨rfl, rfl⟩ ml_X12_94 rfl ⟨Nat.le_of_ble_eq_true rfl, Nat.le_of_ble_eq_true rfl⟩ (Nat.le_of_ble_eq_true rfl) ⟨Nat.le_refl _, Nat.le_refl _⟩ dX12_hold_14 rfl ?_
      refine ya_ifne 23 (by decide) dX12_hold_17 (fun c => ?_) (fun c => ?_)
      · replace h := ya_itef h c
        refine ya_aload_n 0 rfl dX12_hold_23 ?_
        refine ya_iload_n 1 rfl dX12_hold_24 ?_
        refine ya_iconst 1 (by decide) dX12_hold_25 ?_
        obtain ⟨x26, e26, h⟩ := ya_ob h
        refine ya_callVi (S := []) (c_X12_seller3 hG e26) m_X12_seller3 ⟨rfl, rfl⟩ ml_X12_109 rfl ⟨Nat.le_of_ble_eq_true rfl, Nat.le_of_ble_eq_true rfl⟩ (Nat.le_of_ble_eq_true rfl) (hG.lt0 83 (by decide)) (hG.o0 83 rfl) (by decide) rfl rfl ⟨Nat.le_refl _, Nat.le_refl _⟩ dX12_hold_26 rfl ?_
        refine ya_istore_n [(3, .int x26), (0, .ref (X.2.1 + 83)), (1, .int v1), (2, .int v2)] (by decide) rfl dX12_hold_29 ?_
        refine ya_aload_n 1 rfl dX12_hold_30 ?_
        refine ya_iload_n 2 rfl dX12_hold_31 ?_
        refine ya_iload_n 3 rfl dX12_hold_32 ?_
        obtain ⟨d33, e33, h⟩ := ya_ob h
        refine ya_callVv (S := []) (c_X12_setAsks hG e33) m_X12_setAsks ⟨rfl, rfl⟩ ml_X12_353 rfl ⟨Nat.le_of_ble_eq_true rfl, Nat.le_of_ble_eq_true rfl⟩ (Nat.le_of_ble_eq_true rfl) (hG.lt0 83 (by decide)) (hG.o0 83 rfl) (by decide) rfl rfl ⟨Nat.le_refl _, Nat.le_refl _⟩ dX12_hold_33 rfl ?_
        refine ya_iload_n 0 rfl dX12_hold_36 ?_
        cases h
        exact ya_iret rfl rfl rfl rfl rfl (Nat.le_refl _) dX12_hold_37
      · replace h := ya_itet h c
        refine ya_sub [] [] rfl ?_
        exact hk20  h
set_option maxRecDepth 20000 in
theorem w_X12_buyDay_L31 {X : ya_X} {G : ya_G} {v2 : Int32} {v3 : Int32} {v5 : Int32} {d : ya_D} {rr : Int32} (hG : ya_Bk ya_sh ya_ln G 0) : ∀ (n : Nat) (v4 : Int32) (v6 : Int32), f_X12_buyDay_L31 v2 v3 v5 d n v4 v6 = some rr → ya_E X Y_X12_buyDay (ya_M X (some (.int rr), G, d) 0 0) 31 [(0, .ref (X.2.1 + 83)), (2, .int v2), (3, .int v3), (4, .int v4), (5, .int v5), (6, .int v6)] [] G d 0 0 := by
  intro n
  induction n with
  | zero => intro v4 v6 h; cases h
  | succ n ih =>
    intro v4 v6 h
    rw [f_X12_buyDay_L31] at h
    refine ya_iload 5 rfl dX12_buyDay_31 ?_
    refine ya_iflt 77 (by decide) dX12_buyDay_33 (fun c => ?_) (fun c => ?_)
    · replace h := ya_itet h c
      refine ya_iload 3 rfl dX12_buyDay_77 ?_
      cases h
      exact ya_iret rfl rfl rfl rfl rfl (Nat.le_refl _) dX12_buyDay_79
    · replace h := ya_itef h c
      refine ya_iload 5 rfl dX12_buyDay_36 ?_
      refine ya_iload_n 1 rfl dX12_buyDay_38 ?_
      refine ya_iload 4 rfl dX12_buyDay_39 ?_
      refine ya_isub dX12_buyDay_41 ?_
      refine ya_icmp_lt 77 (by decide) dX12_buyDay_42 (fun c => ?_) (fun c => ?_)
      · replace h := ya_itet h c
        refine ya_iload 3 rfl dX12_buyDay_77 ?_
        cases h
        exact ya_iret rfl rfl rfl rfl rfl (Nat.le_refl _) dX12_buyDay_79
      · replace h := ya_itef h c
        refine ya_aload_n 0 rfl dX12_buyDay_45 ?_
        refine ya_iload_n 2 rfl dX12_buyDay_46 ?_
        refine ya_iload 5 rfl dX12_buyDay_47 ?_
        obtain ⟨x49, e49, h⟩ := ya_ob h
        refine ya_callVi (S := []) (c_X12_priceOf hG e49) m_X12_priceOf ⟨rfl, rfl⟩ ml_X12_263 rfl ⟨Nat.le_of_ble_eq_true rfl, Nat.le_of_ble_eq_true rfl⟩ (Nat.le_of_ble_eq_true rfl) (hG.lt0 83 (by decide)) (hG.o0 83 rfl) (by decide) rfl rfl ⟨Nat.le_refl _, Nat.le_refl _⟩ dX12_buyDay_49 rfl ?_
        refine ya_aload_n 0 rfl dX12_buyDay_52 ?_
        refine ya_iload_n 2 rfl dX12_buyDay_53 ?_
        refine ya_iload 3 rfl dX12_buyDay_54 ?_
        obtain ⟨x56, e56, h⟩ := ya_ob h
        refine ya_callVi (S := [.int x49]) (c_X12_priceOf hG e56) m_X12_priceOf ⟨rfl, rfl⟩ ml_X12_263 rfl ⟨Nat.le_of_ble_eq_true rfl, Nat.le_of_ble_eq_true rfl⟩ (Nat.le_of_ble_eq_true rfl) (hG.lt0 83 (by decide)) (hG.o0 83 rfl) (by decide) rfl rfl ⟨Nat.le_refl _, Nat.le_refl _⟩ dX12_buyDay_56 rfl ?_
        refine ya_j1_s h (fun t0_69 => ya_E X Y_X12_buyDay (ya_M X (some (.int rr), G, d) 0 0) 69 [(0, .ref (X.2.1 + 83)), (2, .int v2), (3, .int v3), (5, .int v5), (6, .int v6)] [.int t0_69] G d 0 0) (fun t0_69 h => ?_) (fun k69 hk69 h => ?_)
        · refine ya_istore [(4, .int t0_69), (0, .ref (X.2.1 + 83)), (2, .int v2), (3, .int v3), (5, .int v5), (6, .int v6)] (by decide) rfl dX12_buyDay_69 ?_
          refine ya_iinc (v6 + (-1)) (congrArg (fun z => v6 + z) (by decide : Int32.ofInt (-1) = (-1))) 5 rfl [(6, .int (v6 + (-1))), (4, .int t0_69), (0, .ref (X.2.1 + 83)), (2, .int v2), (3, .int v3), (5, .int v5)] (by decide) rfl dX12_buyDay_71 ?_
          refine ya_goto 31 (by decide) dX12_buyDay_74 ?_
          refine ya_sub [(0, .ref (X.2.1 + 83)), (2, .int v2), (3, .int v3), (4, .int t0_69), (5, .int v5), (6, .int (v6 + (-1)))] [2, 3, 4, 1, 5, 0] rfl ?_
          exact ih _ _ h
        · refine ya_icmp_ge 67 (by decide) dX12_buyDay_59 (fun c => ?_) (fun c => ?_)
          · replace h := ya_itet h c
            refine ya_iload 3 rfl dX12_buyDay_67 ?_
            refine ya_sub [(0, .ref (X.2.1 + 83)), (2, .int v2), (3, .int v3), (5, .int v5), (6, .int v6)] [0, 1, 2, 4, 5] rfl ?_
            exact hk69 _ h
          · replace h := ya_itef h c
            refine ya_iload 5 rfl dX12_buyDay_62 ?_
            refine ya_goto 69 (by decide) dX12_buyDay_64 ?_
            refine ya_sub [(0, .ref (X.2.1 + 83)), (2, .int v2), (3, .int v3), (5, .int v5), (6, .int v6)] [0, 1, 2, 4, 5] rfl ?_
            exact hk69 _ h
set_option maxRecDepth 20000 in
theorem c_X12_buyDay {X : ya_X} {G : ya_G} {v1 : Int32} {v2 : Int32} {d : ya_D} {rr : Int32} (hG : ya_Bk ya_sh ya_ln G 0) (h : f_X12_buyDay v1 v2 d = some rr) : ya_Ct X yX12_buyDay Y_X12_buyDay [.ref (X.2.1 + 83), .int v1, .int v2] G d (some (.int rr), G, d) := by
  refine ya_ct (by decide +kernel) rfl rfl (Nat.le_of_ble_eq_true rfl) ?_
  unfold f_X12_buyDay at h
  show ya_E X Y_X12_buyDay (ya_M X (some (.int rr), G, d) 0 0) 0 [(0, .ref (X.2.1 + 83)), (1, .int v1), (2, .int v2)] [] G d 0 0
  refine ya_aload_n 0 rfl dX12_buyDay_0 ?_
  refine ya_iload_n 1 rfl dX12_buyDay_1 ?_
  refine ya_iconst 0 (by decide) dX12_buyDay_2 ?_
  obtain ⟨x3, e3, h⟩ := ya_ob h
  refine ya_callVi (S := []) (c_X12_of hG e3) m_X12_of ⟨rfl, rfl⟩ ml_X12_260 rfl ⟨Nat.le_of_ble_eq_true rfl, Nat.le_of_ble_eq_true rfl⟩ (Nat.le_of_ble_eq_true rfl) (hG.lt0 83 (by decide)) (hG.o0 83 rfl) (by decide) rfl rfl ⟨Nat.le_refl _, Nat.le_refl _⟩ dX12_buyDay_3 rfl ?_
  refine ya_istore_n [(3, .int x3), (0, .ref (X.2.1 + 83)), (1, .int v1), (2, .int v2)] (by decide) rfl dX12_buyDay_6 ?_
  refine ya_iload_n 3 rfl dX12_buyDay_7 ?_
  refine ya_istore [(4, .int v2), (3, .int x3), (0, .ref (X.2.1 + 83)), (1, .int v1), (2, .int v2)] (by decide) rfl dX12_buyDay_8 ?_
  refine ya_aload_n 2 rfl dX12_buyDay_10 ?_
  refine ya_iload_n 3 rfl dX12_buyDay_11 ?_
  refine ya_iconst 5 (by decide) dX12_buyDay_12 ?_
  obtain ⟨x13, e13, h⟩ := ya_ob h
  refine ya_callVi (S := []) (c_X12_of hG e13) m_X12_of ⟨rfl, rfl⟩ ml_X12_260 rfl ⟨Nat.le_of_ble_eq_true rfl, Nat.le_of_ble_eq_true rfl⟩ (Nat.le_of_ble_eq_true rfl) (hG.lt0 83 (by decide)) (hG.o0 83 rfl) (by decide) rfl rfl ⟨Nat.le_refl _, Nat.le_refl _⟩ dX12_buyDay_13 rfl ?_
  refine ya_aload_n 2 rfl dX12_buyDay_16 ?_
  refine ya_iload_n 1 rfl dX12_buyDay_17 ?_
  obtain ⟨x18, e18, h⟩ := ya_ob h
  refine ya_callVi (S := [.int x13]) (c_X12_keepsOf hG e18) m_X12_keepsOf ⟨rfl, rfl⟩ ml_X12_273 rfl ⟨Nat.le_of_ble_eq_true rfl, Nat.le_of_ble_eq_true rfl⟩ (Nat.le_of_ble_eq_true rfl) (hG.lt0 83 (by decide)) (hG.o0 83 rfl) (by decide) rfl rfl ⟨Nat.le_refl _, Nat.le_refl _⟩ dX12_buyDay_18 rfl ?_
  refine ya_mmin ml_X12_142 wm_min1 wm_min2 wm_min3 (by decide) (Nat.le_of_ble_eq_true rfl) ⟨Nat.le_refl _, Nat.le_refl _⟩ dX12_buyDay_21 ?_
  refine ya_istore [(5, .int (ya_min x13 x18)), (4, .int v2), (3, .int x3), (0, .ref (X.2.1 + 83)), (1, .int v1), (2, .int v2)] (by decide) rfl dX12_buyDay_24 ?_
  refine ya_iload_n 5 rfl dX12_buyDay_26 ?_
  refine ya_iconst 1 (by decide) dX12_buyDay_27 ?_
  refine ya_isub dX12_buyDay_28 ?_
  refine ya_istore [(6, .int (v2 - 1)), (5, .int (ya_min x13 x18)), (4, .int v2), (3, .int x3), (0, .ref (X.2.1 + 83)), (1, .int v1), (2, .int v2)] (by decide) rfl dX12_buyDay_29 ?_
  refine ya_sub [(0, .ref (X.2.1 + 83)), (2, .int v2), (3, .int x3), (4, .int v2), (5, .int (ya_min x13 x18)), (6, .int (v2 - 1))] [4, 6, 3, 2, 1, 0] rfl ?_
  refine w_X12_buyDay_L31 hG  ya_F _ _ h
set_option maxRecDepth 20000 in
theorem w_X12_buysOn_L10 {X : ya_X} {G : ya_G} {v1 : Int32} {v2 : Int32} {d : ya_D} {rr : Int32} (hG : ya_Bk ya_sh ya_ln G 0) : ∀ (n : Nat) (v3 : Int32) (v4 : Int32), f_X12_buysOn_L10 v1 v2 d n v3 v4 = some rr → ya_E X Y_X12_buysOn (ya_M X (some (.int rr), G, d) 0 0) 10 [(0, .ref (X.2.1 + 83)), (1, .int v1), (2, .int v2), (3, .int v3), (4, .int v4)] [] G d 0 0 := by
  intro n
  induction n with
  | zero => intro v3 v4 h; cases h
  | succ n ih =>
    intro v3 v4 h
    rw [f_X12_buysOn_L10] at h
    refine ya_iload 4 rfl dX12_buysOn_10 ?_
    refine ya_aload_n 0 rfl dX12_buysOn_12 ?_
    refine ya_iload_n 1 rfl dX12_buysOn_13 ?_
    refine ya_iconst 4 (by decide) dX12_buysOn_14 ?_
    obtain ⟨x15, e15, h⟩ := ya_ob h
    refine ya_callVi (S := [.int v4]) (c_X12_of hG e15) m_X12_of ⟨rfl, rfl⟩ ml_X12_260 rfl ⟨Nat.le_of_ble_eq_true rfl, Nat.le_of_ble_eq_true rfl⟩ (Nat.le_of_ble_eq_true rfl) (hG.lt0 83 (by decide)) (hG.o0 83 rfl) (by decide) rfl rfl ⟨Nat.le_refl _, Nat.le_refl _⟩ dX12_buysOn_15 rfl ?_
    refine ya_icmp_gt 51 (by decide) dX12_buysOn_18 (fun c => ?_) (fun c => ?_)
    · replace h := ya_itet h c
      refine ya_iload_n 3 rfl dX12_buysOn_51 ?_
      cases h
      exact ya_iret rfl rfl rfl rfl rfl (Nat.le_refl _) dX12_buysOn_52
    · replace h := ya_itef h c
      refine ya_iload_n 3 rfl dX12_buysOn_21 ?_
      refine ya_aload_n 0 rfl dX12_buysOn_22 ?_
      refine ya_iload_n 1 rfl dX12_buysOn_23 ?_
      refine ya_iload 4 rfl dX12_buysOn_24 ?_
      obtain ⟨x26, e26, h⟩ := ya_ob h
      refine ya_callVi (S := [.int v3]) (c_X12_buyDay hG e26) m_X12_buyDay ⟨rfl, rfl⟩ ml_X12_358 rfl ⟨Nat.le_of_ble_eq_true rfl, Nat.le_of_ble_eq_true rfl⟩ (Nat.le_of_ble_eq_true rfl) (hG.lt0 83 (by decide)) (hG.o0 83 rfl) (by decide) rfl rfl ⟨Nat.le_refl _, Nat.le_refl _⟩ dX12_buysOn_26 rfl ?_
      refine ya_iload_n 2 rfl dX12_buysOn_29 ?_
      refine ya_j1_s h (fun t0_43 => ya_E X Y_X12_buysOn (ya_M X (some (.int rr), G, d) 0 0) 43 [(0, .ref (X.2.1 + 83)), (1, .int v1), (2, .int v2), (4, .int v4)] [.int t0_43, .int v3] G d 0 0) (fun t0_43 h => ?_) (fun k43 hk43 h => ?_)
      · refine ya_iadd dX12_buysOn_43 ?_
        refine ya_istore_n [(3, .int (v3 + t0_43)), (0, .ref (X.2.1 + 83)), (1, .int v1), (2, .int v2), (4, .int v4)] (by decide) rfl dX12_buysOn_44 ?_
        refine ya_iinc (v4 + 1) rfl 4 rfl [(4, .int (v4 + 1)), (3, .int (v3 + t0_43)), (0, .ref (X.2.1 + 83)), (1, .int v1), (2, .int v2)] (by decide) rfl dX12_buysOn_45 ?_
        refine ya_goto 10 (by decide) dX12_buysOn_48 ?_
        refine ya_sub [(0, .ref (X.2.1 + 83)), (1, .int v1), (2, .int v2), (3, .int (v3 + t0_43)), (4, .int (v4 + 1))] [2, 3, 4, 1, 0] rfl ?_
        exact ih _ _ h
      · refine ya_icmp_ne 42 (by decide) dX12_buysOn_30 (fun c => ?_) (fun c => ?_)
        · replace h := ya_itef h c
          refine ya_iconst 0 (by decide) dX12_buysOn_42 ?_
          refine ya_sub [(0, .ref (X.2.1 + 83)), (1, .int v1), (2, .int v2), (4, .int v4)] [0, 1, 2, 4] rfl ?_
          exact hk43 _ h
        · replace h := ya_itet h c
          refine ya_aload_n 0 rfl dX12_buysOn_33 ?_
          refine ya_iload_n 1 rfl dX12_buysOn_34 ?_
          refine ya_iconst 1 (by decide) dX12_buysOn_35 ?_
          obtain ⟨x36, e36, h⟩ := ya_ob h
          refine ya_callVi (S := [.int v3]) (c_X12_of hG e36) m_X12_of ⟨rfl, rfl⟩ ml_X12_260 rfl ⟨Nat.le_of_ble_eq_true rfl, Nat.le_of_ble_eq_true rfl⟩ (Nat.le_of_ble_eq_true rfl) (hG.lt0 83 (by decide)) (hG.o0 83 rfl) (by decide) rfl rfl ⟨Nat.le_refl _, Nat.le_refl _⟩ dX12_buysOn_36 rfl ?_
          refine ya_goto 43 (by decide) dX12_buysOn_39 ?_
          refine ya_sub [(0, .ref (X.2.1 + 83)), (1, .int v1), (2, .int v2), (4, .int v4)] [0, 1, 2, 4] rfl ?_
          exact hk43 _ h
set_option maxRecDepth 20000 in
theorem c_X12_buysOn {X : ya_X} {G : ya_G} {v1 : Int32} {v2 : Int32} {d : ya_D} {rr : Int32} (hG : ya_Bk ya_sh ya_ln G 0) (h : f_X12_buysOn v1 v2 d = some rr) : ya_Ct X yX12_buysOn Y_X12_buysOn [.ref (X.2.1 + 83), .int v1, .int v2] G d (some (.int rr), G, d) := by
  refine ya_ct (by decide +kernel) rfl rfl (Nat.le_of_ble_eq_true rfl) ?_
  unfold f_X12_buysOn at h
  show ya_E X Y_X12_buysOn (ya_M X (some (.int rr), G, d) 0 0) 0 [(0, .ref (X.2.1 + 83)), (1, .int v1), (2, .int v2)] [] G d 0 0
  refine ya_iconst 0 (by decide) dX12_buysOn_0 ?_
  refine ya_istore_n [(3, .int 0), (0, .ref (X.2.1 + 83)), (1, .int v1), (2, .int v2)] (by decide) rfl dX12_buysOn_1 ?_
  refine ya_aload_n 1 rfl dX12_buysOn_2 ?_
  refine ya_iload_n 2 rfl dX12_buysOn_3 ?_
  refine ya_iconst 3 (by decide) dX12_buysOn_4 ?_
  obtain ⟨x5, e5, h⟩ := ya_ob h
  refine ya_callVi (S := []) (c_X12_of hG e5) m_X12_of ⟨rfl, rfl⟩ ml_X12_260 rfl ⟨Nat.le_of_ble_eq_true rfl, Nat.le_of_ble_eq_true rfl⟩ (Nat.le_of_ble_eq_true rfl) (hG.lt0 83 (by decide)) (hG.o0 83 rfl) (by decide) rfl rfl ⟨Nat.le_refl _, Nat.le_refl _⟩ dX12_buysOn_5 rfl ?_
  refine ya_istore [(4, .int x5), (3, .int 0), (0, .ref (X.2.1 + 83)), (1, .int v1), (2, .int v2)] (by decide) rfl dX12_buysOn_8 ?_
  refine ya_sub [(0, .ref (X.2.1 + 83)), (1, .int v1), (2, .int v2), (3, .int 0), (4, .int x5)] [2, 3, 4, 1, 0] rfl ?_
  refine w_X12_buysOn_L10 hG  ya_F _ _ h
set_option maxRecDepth 20000 in
theorem w_X12_cheapest_L20 {X : ya_X} {G : ya_G} {v1 : Int32} {d : ya_D} {rr : Int32} (hG : ya_Bk ya_sh ya_ln G 0) : ∀ (n : Nat) (v2 : Int32) (v3 : Int32), f_X12_cheapest_L20 v1 d n v2 v3 = some rr → ya_E X Y_X12_cheapest (ya_M X (some (.int rr), G, d) 0 0) 20 [(0, .ref (X.2.1 + 83)), (1, .int v1), (2, .int v2), (3, .int v3)] [] G d 0 0 := by
  intro n
  induction n with
  | zero => intro v2 v3 h; cases h
  | succ n ih =>
    intro v2 v3 h
    rw [f_X12_cheapest_L20] at h
    refine ya_iload_n 3 rfl dX12_cheapest_20 ?_
    refine ya_aload_n 0 rfl dX12_cheapest_21 ?_
    refine ya_iload_n 1 rfl dX12_cheapest_22 ?_
    refine ya_iconst 4 (by decide) dX12_cheapest_23 ?_
    obtain ⟨x24, e24, h⟩ := ya_ob h
    refine ya_callVi (S := [.int v3]) (c_X12_of hG e24) m_X12_of ⟨rfl, rfl⟩ ml_X12_260 rfl ⟨Nat.le_of_ble_eq_true rfl, Nat.le_of_ble_eq_true rfl⟩ (Nat.le_of_ble_eq_true rfl) (hG.lt0 83 (by decide)) (hG.o0 83 rfl) (by decide) rfl rfl ⟨Nat.le_refl _, Nat.le_refl _⟩ dX12_cheapest_24 rfl ?_
    refine ya_icmp_gt 62 (by decide) dX12_cheapest_27 (fun c => ?_) (fun c => ?_)
    · replace h := ya_itet h c
      refine ya_iload_n 2 rfl dX12_cheapest_62 ?_
      cases h
      exact ya_iret rfl rfl rfl rfl rfl (Nat.le_refl _) dX12_cheapest_63
    · replace h := ya_itef h c
      refine ya_iload_n 2 rfl dX12_cheapest_30 ?_
      refine ya_aload_n 0 rfl dX12_cheapest_31 ?_
      refine ya_iload_n 1 rfl dX12_cheapest_32 ?_
      refine ya_iconst 1 (by decide) dX12_cheapest_33 ?_
      obtain ⟨x34, e34, h⟩ := ya_ob h
      refine ya_callVi (S := [.int v2]) (c_X12_of hG e34) m_X12_of ⟨rfl, rfl⟩ ml_X12_260 rfl ⟨Nat.le_of_ble_eq_true rfl, Nat.le_of_ble_eq_true rfl⟩ (Nat.le_of_ble_eq_true rfl) (hG.lt0 83 (by decide)) (hG.o0 83 rfl) (by decide) rfl rfl ⟨Nat.le_refl _, Nat.le_refl _⟩ dX12_cheapest_34 rfl ?_
      refine ya_aload_n 0 rfl dX12_cheapest_37 ?_
      refine ya_aload_n 0 rfl dX12_cheapest_38 ?_
      refine ya_iload_n 1 rfl dX12_cheapest_39 ?_
      refine ya_iconst 0 (by decide) dX12_cheapest_40 ?_
      obtain ⟨x41, e41, h⟩ := ya_ob h
      refine ya_callVi (S := [.ref (X.2.1 + 83), .int x34, .int v2]) (c_X12_of hG e41) m_X12_of ⟨rfl, rfl⟩ ml_X12_260 rfl ⟨Nat.le_of_ble_eq_true rfl, Nat.le_of_ble_eq_true rfl⟩ (Nat.le_of_ble_eq_true rfl) (hG.lt0 83 (by decide)) (hG.o0 83 rfl) (by decide) rfl rfl ⟨Nat.le_refl _, Nat.le_refl _⟩ dX12_cheapest_41 rfl ?_
      refine ya_aload_n 0 rfl dX12_cheapest_44 ?_
      refine ya_iload_n 1 rfl dX12_cheapest_45 ?_
      refine ya_iload_n 3 rfl dX12_cheapest_46 ?_
      obtain ⟨x47, e47, h⟩ := ya_ob h
      refine ya_callVi (S := [.int x41, .ref (X.2.1 + 83), .int x34, .int v2]) (c_X12_buyDay hG e47) m_X12_buyDay ⟨rfl, rfl⟩ ml_X12_358 rfl ⟨Nat.le_of_ble_eq_true rfl, Nat.le_of_ble_eq_true rfl⟩ (Nat.le_of_ble_eq_true rfl) (hG.lt0 83 (by decide)) (hG.o0 83 rfl) (by decide) rfl rfl ⟨Nat.le_refl _, Nat.le_refl _⟩ dX12_cheapest_47 rfl ?_
      obtain ⟨x50, e50, h⟩ := ya_ob h
      refine ya_callVi (S := [.int x34, .int v2]) (c_X12_priceOf hG e50) m_X12_priceOf ⟨rfl, rfl⟩ ml_X12_263 rfl ⟨Nat.le_of_ble_eq_true rfl, Nat.le_of_ble_eq_true rfl⟩ (Nat.le_of_ble_eq_true rfl) (hG.lt0 83 (by decide)) (hG.o0 83 rfl) (by decide) rfl rfl ⟨Nat.le_refl _, Nat.le_refl _⟩ dX12_cheapest_50 rfl ?_
      refine ya_imul dX12_cheapest_53 ?_
      refine ya_iadd dX12_cheapest_54 ?_
      refine ya_istore_n [(2, .int (v2 + (x34 * x50))), (0, .ref (X.2.1 + 83)), (1, .int v1), (3, .int v3)] (by decide) rfl dX12_cheapest_55 ?_
      refine ya_iinc (v3 + 1) rfl 3 rfl [(3, .int (v3 + 1)), (2, .int (v2 + (x34 * x50))), (0, .ref (X.2.1 + 83)), (1, .int v1)] (by decide) rfl dX12_cheapest_56 ?_
      refine ya_goto 20 (by decide) dX12_cheapest_59 ?_
      refine ya_sub [(0, .ref (X.2.1 + 83)), (1, .int v1), (2, .int (v2 + (x34 * x50))), (3, .int (v3 + 1))] [2, 3, 1, 0] rfl ?_
      exact ih _ _ h
set_option maxRecDepth 20000 in
theorem c_X12_cheapest {X : ya_X} {G : ya_G} {v1 : Int32} {d : ya_D} {rr : Int32} (hG : ya_Bk ya_sh ya_ln G 0) (h : f_X12_cheapest v1 d = some rr) : ya_Ct X yX12_cheapest Y_X12_cheapest [.ref (X.2.1 + 83), .int v1] G d (some (.int rr), G, d) := by
  refine ya_ct (by decide +kernel) rfl rfl (Nat.le_of_ble_eq_true rfl) ?_
  unfold f_X12_cheapest at h
  show ya_E X Y_X12_cheapest (ya_M X (some (.int rr), G, d) 0 0) 0 [(0, .ref (X.2.1 + 83)), (1, .int v1)] [] G d 0 0
  refine ya_aload_n 0 rfl dX12_cheapest_0 ?_
  refine ya_iload_n 1 rfl dX12_cheapest_1 ?_
  obtain ⟨x2, e2, h⟩ := ya_ob h
  refine ya_callVi (S := []) (c_X12_isBuyer hG e2) m_X12_isBuyer ⟨rfl, rfl⟩ ml_X12_327 rfl ⟨Nat.le_of_ble_eq_true rfl, Nat.le_of_ble_eq_true rfl⟩ (Nat.le_of_ble_eq_true rfl) (hG.lt0 83 (by decide)) (hG.o0 83 rfl) (by decide) rfl rfl ⟨Nat.le_refl _, Nat.le_refl _⟩ dX12_cheapest_2 rfl ?_
  refine ya_ifne 11 (by decide) dX12_cheapest_5 (fun c => ?_) (fun c => ?_)
  · replace h := ya_itef h c
    refine ya_iconst 0 (by decide) dX12_cheapest_11 ?_
    refine ya_istore_n [(2, .int 0), (0, .ref (X.2.1 + 83)), (1, .int v1)] (by decide) rfl dX12_cheapest_12 ?_
    refine ya_aload_n 1 rfl dX12_cheapest_13 ?_
    refine ya_iload_n 2 rfl dX12_cheapest_14 ?_
    refine ya_iconst 3 (by decide) dX12_cheapest_15 ?_
    obtain ⟨x16, e16, h⟩ := ya_ob h
    refine ya_callVi (S := []) (c_X12_of hG e16) m_X12_of ⟨rfl, rfl⟩ ml_X12_260 rfl ⟨Nat.le_of_ble_eq_true rfl, Nat.le_of_ble_eq_true rfl⟩ (Nat.le_of_ble_eq_true rfl) (hG.lt0 83 (by decide)) (hG.o0 83 rfl) (by decide) rfl rfl ⟨Nat.le_refl _, Nat.le_refl _⟩ dX12_cheapest_16 rfl ?_
    refine ya_istore_n [(3, .int x16), (2, .int 0), (0, .ref (X.2.1 + 83)), (1, .int v1)] (by decide) rfl dX12_cheapest_19 ?_
    refine ya_sub [(0, .ref (X.2.1 + 83)), (1, .int v1), (2, .int 0), (3, .int x16)] [2, 3, 1, 0] rfl ?_
    refine w_X12_cheapest_L20 hG  ya_F _ _ h
  · replace h := ya_itet h c
    refine ya_bipush (-2) (by decide) dX12_cheapest_8 ?_
    cases h
    exact ya_iret rfl rfl rfl rfl rfl (Nat.le_refl _) dX12_cheapest_10
set_option maxRecDepth 20000 in
theorem c_X12_buys {X : ya_X} {G : ya_G} {v1 : Int32} {v2 : Int32} {d : ya_D} {rr : Int32} (hG : ya_Bk ya_sh ya_ln G 0) (h : f_X12_buys v1 v2 d = some rr) : ya_Ct X yX12_buys Y_X12_buys [.ref (X.2.1 + 83), .int v1, .int v2] G d (some (.int rr), G, d) := by
  refine ya_ct (by decide +kernel) rfl rfl (Nat.le_of_ble_eq_true rfl) ?_
  unfold f_X12_buys at h
  show ya_E X Y_X12_buys (ya_M X (some (.int rr), G, d) 0 0) 0 [(0, .ref (X.2.1 + 83)), (1, .int v1), (2, .int v2)] [] G d 0 0
  refine ya_aload_n 0 rfl dX12_buys_0 ?_
  refine ya_iload_n 1 rfl dX12_buys_1 ?_
  obtain ⟨x2, e2, h⟩ := ya_ob h
  refine ya_callVi (S := []) (c_X12_isBuyer hG e2) m_X12_isBuyer ⟨rfl, rfl⟩ ml_X12_327 rfl ⟨Nat.le_of_ble_eq_true rfl, Nat.le_of_ble_eq_true rfl⟩ (Nat.le_of_ble_eq_true rfl) (hG.lt0 83 (by decide)) (hG.o0 83 rfl) (by decide) rfl rfl ⟨Nat.le_refl _, Nat.le_refl _⟩ dX12_buys_2 rfl ?_
  refine ya_j0_s h (ya_E X Y_X12_buys (ya_M X (some (.int rr), G, d) 0 0) 26 [] [] G d 0 0) (fun h => ?_) (fun k26 hk26 h => ?_)
  · refine ya_bipush (-2) (by decide) dX12_buys_26 ?_
    cases h
    exact ya_iret rfl rfl rfl rfl rfl (Nat.le_refl _) dX12_buys_28
  · refine ya_ifeq 26 (by decide) dX12_buys_5 (fun c => ?_) (fun c => ?_)
    · replace h := ya_itet h c
      refine ya_sub [] [] rfl ?_
      exact hk26  h
    · replace h := ya_itef h c
      refine ya_aload_n 0 rfl dX12_buys_8 ?_
      refine ya_iload_n 2 rfl dX12_buys_9 ?_
      refine ya_i2l dX12_buys_10 ?_
      obtain ⟨x11, e11, h⟩ := ya_ob h
      refine ya_callVi (S := []) (c_X12_isDay hG e11) m_X12_isDay ⟨rfl, rfl⟩ ml_X12_102 rfl ⟨Nat.le_of_ble_eq_true rfl, Nat.le_of_ble_eq_true rfl⟩ (Nat.le_of_ble_eq_true rfl) (hG.lt0 83 (by decide)) (hG.o0 83 rfl) (by decide) rfl rfl ⟨Nat.le_refl _, Nat.le_refl _⟩ dX12_buys_11 rfl ?_
      refine ya_ifeq 26 (by decide) dX12_buys_14 (fun c => ?_) (fun c => ?_)
      · replace h := ya_itet h c
        refine ya_sub [] [] rfl ?_
        exact hk26  h
      · replace h := ya_itef h c
        refine ya_aload_n 0 rfl dX12_buys_17 ?_
        refine ya_iload_n 1 rfl dX12_buys_18 ?_
        refine ya_iload_n 2 rfl dX12_buys_19 ?_
        obtain ⟨x20, e20, h⟩ := ya_ob h
        refine ya_callVi (S := []) (c_X12_buysOn hG e20) m_X12_buysOn ⟨rfl, rfl⟩ ml_X12_361 rfl ⟨Nat.le_of_ble_eq_true rfl, Nat.le_of_ble_eq_true rfl⟩ (Nat.le_of_ble_eq_true rfl) (hG.lt0 83 (by decide)) (hG.o0 83 rfl) (by decide) rfl rfl ⟨Nat.le_refl _, Nat.le_refl _⟩ dX12_buys_20 rfl ?_
        refine ya_goto 28 (by decide) dX12_buys_23 ?_
        cases h
        exact ya_iret rfl rfl rfl rfl rfl (Nat.le_refl _) dX12_buys_28
set_option maxRecDepth 20000 in
theorem w_X12_crowd_L15 {X : ya_X} {G : ya_G} {v1 : Int32} {d : ya_D} {rr : Int32} (hG : ya_Bk ya_sh ya_ln G 0) : ∀ (n : Nat) (v2 : Int32) (v3 : Int32), f_X12_crowd_L15 v1 d n v2 v3 = some rr → ya_E X Y_X12_crowd (ya_M X (some (.int rr), G, d) 0 0) 15 [(0, .ref (X.2.1 + 83)), (1, .int v1), (2, .int v2), (3, .int v3)] [] G d 0 0 := by
  intro n
  induction n with
  | zero => intro v2 v3 h; cases h
  | succ n ih =>
    intro v2 v3 h
    rw [f_X12_crowd_L15] at h
    refine ya_iload_n 3 rfl dX12_crowd_15 ?_
    refine ya_aload_n 0 rfl dX12_crowd_16 ?_
    refine ya_getR fo_X12_9 (hG.o0 83 rfl) (hG.lt0 83 (by decide)) (hG.l0 82 rfl) dX12_crowd_17 ?_
    refine ya_iconst 0 (by decide) dX12_crowd_20 ?_
    refine ya_iald (hG.s0 84 rfl) (hG.lt0 84 (by decide)) dX12_crowd_21 h (fun x21 h => ?_)
    refine ya_icmp_ge 52 (by decide) dX12_crowd_22 (fun c => ?_) (fun c => ?_)
    · replace h := ya_itet h c
      refine ya_iload_n 2 rfl dX12_crowd_52 ?_
      cases h
      exact ya_iret rfl rfl rfl rfl rfl (Nat.le_refl _) dX12_crowd_53
    · replace h := ya_itef h c
      refine ya_aload_n 0 rfl dX12_crowd_25 ?_
      refine ya_iload_n 1 rfl dX12_crowd_26 ?_
      refine ya_iload_n 3 rfl dX12_crowd_27 ?_
      obtain ⟨x28, e28, h⟩ := ya_ob h
      refine ya_callVi (S := []) (c_X12_buysOn hG e28) m_X12_buysOn ⟨rfl, rfl⟩ ml_X12_361 rfl ⟨Nat.le_of_ble_eq_true rfl, Nat.le_of_ble_eq_true rfl⟩ (Nat.le_of_ble_eq_true rfl) (hG.lt0 83 (by decide)) (hG.o0 83 rfl) (by decide) rfl rfl ⟨Nat.le_refl _, Nat.le_refl _⟩ dX12_crowd_28 rfl ?_
      refine ya_aload_n 0 rfl dX12_crowd_31 ?_
      refine ya_iload_n 1 rfl dX12_crowd_32 ?_
      refine ya_iload_n 2 rfl dX12_crowd_33 ?_
      obtain ⟨x34, e34, h⟩ := ya_ob h
      refine ya_callVi (S := [.int x28]) (c_X12_buysOn hG e34) m_X12_buysOn ⟨rfl, rfl⟩ ml_X12_361 rfl ⟨Nat.le_of_ble_eq_true rfl, Nat.le_of_ble_eq_true rfl⟩ (Nat.le_of_ble_eq_true rfl) (hG.lt0 83 (by decide)) (hG.o0 83 rfl) (by decide) rfl rfl ⟨Nat.le_refl _, Nat.le_refl _⟩ dX12_crowd_34 rfl ?_
      refine ya_j1_s h (fun t0_45 => ya_E X Y_X12_crowd (ya_M X (some (.int rr), G, d) 0 0) 45 [(0, .ref (X.2.1 + 83)), (1, .int v1), (3, .int v3)] [.int t0_45] G d 0 0) (fun t0_45 h => ?_) (fun k45 hk45 h => ?_)
      · refine ya_istore_n [(2, .int t0_45), (0, .ref (X.2.1 + 83)), (1, .int v1), (3, .int v3)] (by decide) rfl dX12_crowd_45 ?_
        refine ya_iinc (v3 + 1) rfl 3 rfl [(3, .int (v3 + 1)), (2, .int t0_45), (0, .ref (X.2.1 + 83)), (1, .int v1)] (by decide) rfl dX12_crowd_46 ?_
        refine ya_goto 15 (by decide) dX12_crowd_49 ?_
        refine ya_sub [(0, .ref (X.2.1 + 83)), (1, .int v1), (2, .int t0_45), (3, .int (v3 + 1))] [2, 3, 1, 0] rfl ?_
        exact ih _ _ h
      · refine ya_icmp_le 44 (by decide) dX12_crowd_37 (fun c => ?_) (fun c => ?_)
        · replace h := ya_itet h c
          refine ya_iload_n 2 rfl dX12_crowd_44 ?_
          refine ya_sub [(0, .ref (X.2.1 + 83)), (1, .int v1), (3, .int v3)] [0, 1, 3] rfl ?_
          exact hk45 _ h
        · replace h := ya_itef h c
          refine ya_iload_n 3 rfl dX12_crowd_40 ?_
          refine ya_goto 45 (by decide) dX12_crowd_41 ?_
          refine ya_sub [(0, .ref (X.2.1 + 83)), (1, .int v1), (3, .int v3)] [0, 1, 3] rfl ?_
          exact hk45 _ h
set_option maxRecDepth 20000 in
theorem c_X12_crowd {X : ya_X} {G : ya_G} {v1 : Int32} {d : ya_D} {rr : Int32} (hG : ya_Bk ya_sh ya_ln G 0) (h : f_X12_crowd v1 d = some rr) : ya_Ct X yX12_crowd Y_X12_crowd [.ref (X.2.1 + 83), .int v1] G d (some (.int rr), G, d) := by
  refine ya_ct (by decide +kernel) rfl rfl (Nat.le_of_ble_eq_true rfl) ?_
  unfold f_X12_crowd at h
  show ya_E X Y_X12_crowd (ya_M X (some (.int rr), G, d) 0 0) 0 [(0, .ref (X.2.1 + 83)), (1, .int v1)] [] G d 0 0
  refine ya_aload_n 0 rfl dX12_crowd_0 ?_
  refine ya_iload_n 1 rfl dX12_crowd_1 ?_
  obtain ⟨x2, e2, h⟩ := ya_ob h
  refine ya_callVi (S := []) (c_X12_isBuyer hG e2) m_X12_isBuyer ⟨rfl, rfl⟩ ml_X12_327 rfl ⟨Nat.le_of_ble_eq_true rfl, Nat.le_of_ble_eq_true rfl⟩ (Nat.le_of_ble_eq_true rfl) (hG.lt0 83 (by decide)) (hG.o0 83 rfl) (by decide) rfl rfl ⟨Nat.le_refl _, Nat.le_refl _⟩ dX12_crowd_2 rfl ?_
  refine ya_ifne 11 (by decide) dX12_crowd_5 (fun c => ?_) (fun c => ?_)
  · replace h := ya_itef h c
    refine ya_iconst 0 (by decide) dX12_crowd_11 ?_
    refine ya_istore_n [(2, .int 0), (0, .ref (X.2.1 + 83)), (1, .int v1)] (by decide) rfl dX12_crowd_12 ?_
    refine ya_iconst 1 (by decide) dX12_crowd_13 ?_
    refine ya_istore_n [(3, .int 1), (2, .int 0), (0, .ref (X.2.1 + 83)), (1, .int v1)] (by decide) rfl dX12_crowd_14 ?_
    refine ya_sub [(0, .ref (X.2.1 + 83)), (1, .int v1), (2, .int 0), (3, .int 1)] [2, 3, 1, 0] rfl ?_
    refine w_X12_crowd_L15 hG  ya_F _ _ h
  · replace h := ya_itet h c
    refine ya_bipush (-2) (by decide) dX12_crowd_8 ?_
    cases h
    exact ya_iret rfl rfl rfl rfl rfl (Nat.le_refl _) dX12_crowd_10
set_option maxRecDepth 20000 in
theorem c_X12_mark {X : ya_X} {G : ya_G} {v1 : Int32} {v2 : Int32} {v3 : Int32} {d : ya_D} {rr : (Int32 × ya_D)} (hG : ya_Bk ya_sh ya_ln G 0) (h : f_X12_mark v1 v2 v3 d = some rr) : ya_Ct X yX12_mark Y_X12_mark [.ref (X.2.1 + 83), .int v1, .int v2, .int v3] G d (some (.int rr.1), G, rr.2) := by
  refine ya_ct (by decide +kernel) rfl rfl (Nat.le_of_ble_eq_true rfl) ?_
  unfold f_X12_mark at h
  show ya_E X Y_X12_mark (ya_M X (some (.int rr.1), G, rr.2) 0 0) 0 [(0, .ref (X.2.1 + 83)), (1, .int v1), (2, .int v2), (3, .int v3)] [] G d 0 0
  refine ya_aload_n 0 rfl dX12_mark_0 ?_
  refine ya_iload_n 1 rfl dX12_mark_1 ?_
  refine ya_iload_n 2 rfl dX12_mark_2 ?_
  obtain ⟨x3, e3, h⟩ := ya_ob h
  refine ya_callVi (S := []) (c_X12_areSo hG e3) m_X12_areSo ⟨rfl, rfl⟩ ml_X12_307 rfl ⟨Nat.le_of_ble_eq_true rfl, Nat.le_of_ble_eq_true rfl⟩ (Nat.le_of_ble_eq_true rfl) (hG.lt0 83 (by decide)) (hG.o0 83 rfl) (by decide) rfl rfl ⟨Nat.le_refl _, Nat.le_refl _⟩ dX12_mark_3 rfl ?_
  refine ya_j0_s h (ya_E X Y_X12_mark (ya_M X (some (.int rr.1), G, rr.2) 0 0) 21 [] [] G d 0 0) (fun h => ?_) (fun k21 hk21 h => ?_)
  · refine ya_bipush (-2) (by decide) dX12_mark_21 ?_
    cases h
    exact ya_iret rfl rfl rfl rfl rfl (Nat.le_refl _) dX12_mark_23
  · refine ya_ifeq 21 (by decide) dX12_mark_6 (fun c => ?_) (fun c => ?_)
    · replace h := ya_itet h c
      refine ya_sub [] [] rfl ?_
      exact hk21  h
    · replace h := ya_itef h c
      refine ya_iload_n 3 rfl dX12_mark_9 ?_
      refine ya_i2l dX12_mark_10 ?_
      refine ya_lconst 0 rfl dX12_mark_11 ?_
      refine ya_ldc2 99 kc_X12_356 dX12_mark_12 ?_
      obtain ⟨x15, e15, h⟩ := ya_ob h
      refine ya_callSi (S := []) (c_X12_in hG e15) m_X12_in ⟨rfl, rfl⟩ ml_X12_94 rfl ⟨Nat.le_of_ble_eq_true rfl, Nat.le_of_ble_eq_true rfl⟩ (Nat.le_of_ble_eq_true rfl) ⟨Nat.le_refl _, Nat.le_refl _⟩ dX12_mark_15 rfl ?_
      refine ya_ifne 24 (by decide) dX12_mark_18 (fun c => ?_) (fun c => ?_)
      · replace h := ya_itef h c
        refine ya_iload_n 3 rfl dX12_mark_24 ?_
        refine ya_aload_n 0 rfl dX12_mark_25 ?_
        refine ya_iload_n 1 rfl dX12_mark_26 ?_
        refine ya_iload_n 2 rfl dX12_mark_27 ?_
        obtain ⟨x28, e28, h⟩ := ya_ob h
        refine ya_callVi (S := [.int v3]) (c_X12_priceOf hG e28) m_X12_priceOf ⟨rfl, rfl⟩ ml_X12_263 rfl ⟨Nat.le_of_ble_eq_true rfl, Nat.le_of_ble_eq_true rfl⟩ (Nat.le_of_ble_eq_true rfl) (hG.lt0 83 (by decide)) (hG.o0 83 rfl) (by decide) rfl rfl ⟨Nat.le_refl _, Nat.le_refl _⟩ dX12_mark_28 rfl ?_
        refine ya_aload_n 0 rfl dX12_mark_31 ?_
        refine ya_getR fo_X12_9 (hG.o0 83 rfl) (hG.lt0 83 (by decide)) (hG.l0 82 rfl) dX12_mark_32 ?_
        refine ya_iconst 5 (by decide) dX12_mark_35 ?_
        refine ya_iald (hG.s0 84 rfl) (hG.lt0 84 (by decide)) dX12_mark_36 h (fun x36 h => ?_)
        refine ya_iadd dX12_mark_37 ?_
        refine ya_mmin ml_X12_142 wm_min1 wm_min2 wm_min3 (by decide) (Nat.le_of_ble_eq_true rfl) ⟨Nat.le_refl _, Nat.le_refl _⟩ dX12_mark_38 ?_
        refine ya_istore [(4, .int (ya_min v3 (x28 + x36))), (0, .ref (X.2.1 + 83)), (1, .int v1), (2, .int v2), (3, .int v3)] (by decide) rfl dX12_mark_41 ?_
        refine ya_aload_n 1 rfl dX12_mark_43 ?_
        refine ya_getR fo_X12_9 (hG.o0 83 rfl) (hG.lt0 83 (by decide)) (hG.l0 82 rfl) dX12_mark_44 ?_
        refine ya_sipush 211 (by decide) dX12_mark_47 ?_
        refine ya_iload_n 2 rfl dX12_mark_50 ?_
        refine ya_iload_n 3 rfl dX12_mark_51 ?_
        obtain ⟨x52, e52, h⟩ := ya_ob h
        refine ya_callSi (S := [.int 211, .ref (X.2.1 + 84)]) (c_X12_at hG e52) m_X12_at ⟨rfl, rfl⟩ ml_X12_105 rfl ⟨Nat.le_of_ble_eq_true rfl, Nat.le_of_ble_eq_true rfl⟩ (Nat.le_of_ble_eq_true rfl) ⟨Nat.le_refl _, Nat.le_refl _⟩ dX12_mark_52 rfl ?_
        refine ya_iadd dX12_mark_55 ?_
        refine ya_iload 0 rfl dX12_mark_56 ?_
        refine ya_iast (hG.s0 84 rfl) (hG.lt0 84 (by decide)) dX12_mark_58 h (fun d58 h => ?_)
        refine ya_iload 0 rfl dX12_mark_59 ?_
        cases h
        exact ya_iret rfl rfl rfl rfl rfl (Nat.le_refl _) dX12_mark_61
      · replace h := ya_itet h c
        refine ya_sub [] [] rfl ?_
        exact hk21  h
set_option maxRecDepth 20000 in
theorem c_X12_isMarked {X : ya_X} {G : ya_G} {v1 : Int32} {d : ya_D} {rr : Int32} (hG : ya_Bk ya_sh ya_ln G 0) (h : f_X12_isMarked v1 d = some rr) : ya_Ct X yX12_isMarked Y_X12_isMarked [.ref (X.2.1 + 83), .int v1] G d (some (.int rr), G, d) := by
  refine ya_ct (by decide +kernel) rfl rfl (Nat.le_of_ble_eq_true rfl) ?_
  unfold f_X12_isMarked at h
  show ya_E X Y_X12_isMarked (ya_M X (some (.int rr), G, d) 0 0) 0 [(0, .ref (X.2.1 + 83)), (1, .int v1)] [] G d 0 0
  refine ya_aload_n 0 rfl dX12_isMarked_0 ?_
  refine ya_getR fo_X12_9 (hG.o0 83 rfl) (hG.lt0 83 (by decide)) (hG.l0 82 rfl) dX12_isMarked_1 ?_
  refine ya_sipush 211 (by decide) dX12_isMarked_4 ?_
  refine ya_iload_n 1 rfl dX12_isMarked_7 ?_
  refine ya_iadd dX12_isMarked_8 ?_
  refine ya_iald (hG.s0 84 rfl) (hG.lt0 84 (by decide)) dX12_isMarked_9 h (fun x9 h => ?_)
  refine ya_iconst (-1) (by decide) dX12_isMarked_10 ?_
  refine ya_j0_s h (ya_E X Y_X12_isMarked (ya_M X (some (.int rr), G, d) 0 0) 40 [] [] G d 0 0) (fun h => ?_) (fun k40 hk40 h => ?_)
  · refine ya_iconst 0 (by decide) dX12_isMarked_40 ?_
    cases h
    exact ya_zret .boolean rfl rfl rfl rfl (by decide) rfl (Nat.le_refl _) dX12_isMarked_41
  · refine ya_icmp_eq 40 (by decide) dX12_isMarked_11 (fun c => ?_) (fun c => ?_)
    · replace h := ya_itet h c
      refine ya_sub [] [] rfl ?_
      exact hk40  h
    · replace h := ya_itef h c
      refine ya_aload_n 0 rfl dX12_isMarked_14 ?_
      refine ya_getR fo_X12_9 (hG.o0 83 rfl) (hG.lt0 83 (by decide)) (hG.l0 82 rfl) dX12_isMarked_15 ?_
      refine ya_sipush 211 (by decide) dX12_isMarked_18 ?_
      refine ya_iload_n 1 rfl dX12_isMarked_21 ?_
      refine ya_iadd dX12_isMarked_22 ?_
      refine ya_iald (hG.s0 84 rfl) (hG.lt0 84 (by decide)) dX12_isMarked_23 h (fun x23 h => ?_)
      refine ya_aload_n 0 rfl dX12_isMarked_24 ?_
      refine ya_getR fo_X12_9 (hG.o0 83 rfl) (hG.lt0 83 (by decide)) (hG.l0 82 rfl) dX12_isMarked_25 ?_
      refine ya_bipush 11 (by decide) dX12_isMarked_28 ?_
      refine ya_iload_n 1 rfl dX12_isMarked_30 ?_
      refine ya_iadd dX12_isMarked_31 ?_
      refine ya_iald (hG.s0 84 rfl) (hG.lt0 84 (by decide)) dX12_isMarked_32 h (fun x32 h => ?_)
      refine ya_icmp_eq 40 (by decide) dX12_isMarked_33 (fun c => ?_) (fun c => ?_)
      · replace h := ya_itet h c
        refine ya_sub [] [] rfl ?_
        exact hk40  h
      · replace h := ya_itef h c
        refine ya_iconst 1 (by decide) dX12_isMarked_36 ?_
        refine ya_goto 41 (by decide) dX12_isMarked_37 ?_
        cases h
        exact ya_zret .boolean rfl rfl rfl rfl (by decide) rfl (Nat.le_refl _) dX12_isMarked_41
set_option maxRecDepth 20000 in
theorem w_X12_markedMany_L16 {X : ya_X} {G : ya_G} {v2 : Int32} {d : ya_D} {rr : Int32} {e52 : Int32 → Option Int32} (hG : ya_Bk ya_sh ya_ln G 0) (he52 : ∀ (v1 : Int32), e52 v1 = some rr → ya_E X Y_X12_markedMany (ya_M X (some (.int rr), G, d) 0 0) 52 [(0, .ref (X.2.1 + 83)), (1, .int v1), (2, .int v2)] [] G d 0 0) : ∀ (n : Nat) (v1 : Int32) (v3 : Int32), f_X12_markedMany_L16 v2 d e52 n v1 v3 = some rr → ya_E X Y_X12_markedMany (ya_M X (some (.int rr), G, d) 0 0) 16 [(0, .ref (X.2.1 + 83)), (1, .int v1), (2, .int v2), (3, .int v3)] [] G d 0 0 := by
  intro n
  induction n with
  | zero => intro v1 v3 h; cases h
  | succ n ih =>
    intro v1 v3 h
    rw [f_X12_markedMany_L16] at h
    refine ya_iload_n 3 rfl dX12_markedMany_16 ?_
    refine ya_aload_n 0 rfl dX12_markedMany_17 ?_
    refine ya_getR fo_X12_9 (hG.o0 83 rfl) (hG.lt0 83 (by decide)) (hG.l0 82 rfl) dX12_markedMany_18 ?_
    refine ya_iconst 0 (by decide) dX12_markedMany_21 ?_
    refine ya_iald (hG.s0 84 rfl) (hG.lt0 84 (by decide)) dX12_markedMany_22 h (fun x22 h => ?_)
    refine ya_icmp_ge 52 (by decide) dX12_markedMany_23 (fun c => ?_) (fun c => ?_)
    · replace h := ya_itet h c
      refine ya_sub [(0, .ref (X.2.1 + 83)), (1, .int v1), (2, .int v2)] [0, 1, 2] rfl ?_
      exact he52 _ h
    · replace h := ya_itef h c
      refine ya_iload_n 1 rfl dX12_markedMany_26 ?_
      refine ya_aload_n 0 rfl dX12_markedMany_27 ?_
      refine ya_iload_n 2 rfl dX12_markedMany_28 ?_
      refine ya_iload_n 3 rfl dX12_markedMany_29 ?_
      obtain ⟨x30, e30, h⟩ := ya_ob h
      refine ya_callSi (S := [.ref (X.2.1 + 83), .int v1]) (c_X12_at hG e30) m_X12_at ⟨rfl, rfl⟩ ml_X12_105 rfl ⟨Nat.le_of_ble_eq_true rfl, Nat.le_of_ble_eq_true rfl⟩ (Nat.le_of_ble_eq_true rfl) ⟨Nat.le_refl _, Nat.le_refl _⟩ dX12_markedMany_30 rfl ?_
      obtain ⟨x33, e33, h⟩ := ya_ob h
      refine ya_callVi (S := [.int v1]) (c_X12_isMarked hG e33) m_X12_isMarked ⟨rfl, rfl⟩ ml_X12_364 rfl ⟨Nat.le_of_ble_eq_true rfl, Nat.le_of_ble_eq_true rfl⟩ (Nat.le_of_ble_eq_true rfl) (hG.lt0 83 (by decide)) (hG.o0 83 rfl) (by decide) rfl rfl ⟨Nat.le_refl _, Nat.le_refl _⟩ dX12_markedMany_33 rfl ?_
      refine ya_j1_s h (fun t0_44 => ya_E X Y_X12_markedMany (ya_M X (some (.int rr), G, d) 0 0) 44 [(0, .ref (X.2.1 + 83)), (2, .int v2), (3, .int v3)] [.int t0_44, .int v1] G d 0 0) (fun t0_44 h => ?_) (fun k44 hk44 h => ?_)
      · refine ya_iadd dX12_markedMany_44 ?_
        refine ya_istore_n [(1, .int (v1 + t0_44)), (0, .ref (X.2.1 + 83)), (2, .int v2), (3, .int v3)] (by decide) rfl dX12_markedMany_45 ?_
        refine ya_iinc (v3 + 1) rfl 3 rfl [(3, .int (v3 + 1)), (1, .int (v1 + t0_44)), (0, .ref (X.2.1 + 83)), (2, .int v2)] (by decide) rfl dX12_markedMany_46 ?_
        refine ya_goto 16 (by decide) dX12_markedMany_49 ?_
        refine ya_sub [(0, .ref (X.2.1 + 83)), (1, .int (v1 + t0_44)), (2, .int v2), (3, .int (v3 + 1))] [2, 1, 3, 0] rfl ?_
        exact ih _ _ h
      · refine ya_ifeq 43 (by decide) dX12_markedMany_36 (fun c => ?_) (fun c => ?_)
        · replace h := ya_itet h c
          refine ya_iconst 0 (by decide) dX12_markedMany_43 ?_
          refine ya_sub [(0, .ref (X.2.1 + 83)), (2, .int v2), (3, .int v3)] [0, 2, 3] rfl ?_
          exact hk44 _ h
        · replace h := ya_itef h c
          refine ya_iconst 1 (by decide) dX12_markedMany_39 ?_
          refine ya_goto 44 (by decide) dX12_markedMany_40 ?_
          refine ya_sub [(0, .ref (X.2.1 + 83)), (2, .int v2), (3, .int v3)] [0, 2, 3] rfl ?_
          exact hk44 _ h
set_option maxRecDepth 20000 in
theorem w_X12_markedMany_L4 {X : ya_X} {G : ya_G} {d : ya_D} {rr : Int32} (hG : ya_Bk ya_sh ya_ln G 0) : ∀ (n : Nat) (v1 : Int32) (v2 : Int32), f_X12_markedMany_L4 d n v1 v2 = some rr → ya_E X Y_X12_markedMany (ya_M X (some (.int rr), G, d) 0 0) 4 [(0, .ref (X.2.1 + 83)), (1, .int v1), (2, .int v2)] [] G d 0 0 := by
  intro n
  induction n with
  | zero => intro v1 v2 h; cases h
  | succ n ih =>
    intro v1 v2 h
    rw [f_X12_markedMany_L4] at h
    refine ya_iload_n 2 rfl dX12_markedMany_4 ?_
    refine ya_aload_n 0 rfl dX12_markedMany_5 ?_
    refine ya_getR fo_X12_9 (hG.o0 83 rfl) (hG.lt0 83 (by decide)) (hG.l0 82 rfl) dX12_markedMany_6 ?_
    refine ya_iconst 1 (by decide) dX12_markedMany_9 ?_
    refine ya_iald (hG.s0 84 rfl) (hG.lt0 84 (by decide)) dX12_markedMany_10 h (fun x10 h => ?_)
    refine ya_icmp_ge 58 (by decide) dX12_markedMany_11 (fun c => ?_) (fun c => ?_)
    · replace h := ya_itet h c
      refine ya_iload_n 1 rfl dX12_markedMany_58 ?_
      cases h
      exact ya_iret rfl rfl rfl rfl rfl (Nat.le_refl _) dX12_markedMany_59
    · replace h := ya_itef h c
      refine ya_iconst 0 (by decide) dX12_markedMany_14 ?_
      refine ya_istore_n [(3, .int 0), (0, .ref (X.2.1 + 83)), (1, .int v1), (2, .int v2)] (by decide) rfl dX12_markedMany_15 ?_
      refine ya_sub [(0, .ref (X.2.1 + 83)), (1, .int v1), (2, .int v2), (3, .int 0)] [1, 2, 3, 0] rfl ?_
      refine w_X12_markedMany_L16 hG (fun v1_52 h => ?_) ya_F _ _ h
      refine ya_iinc (v2 + 1) rfl 2 rfl [(2, .int (v2 + 1)), (0, .ref (X.2.1 + 83)), (1, .int v1_52)] (by decide) rfl dX12_markedMany_52 ?_
      refine ya_goto 4 (by decide) dX12_markedMany_55 ?_
      refine ya_sub [(0, .ref (X.2.1 + 83)), (1, .int v1_52), (2, .int (v2 + 1))] [1, 2, 0] rfl ?_
      exact ih _ _ h
set_option maxRecDepth 20000 in
theorem c_X12_markedMany {X : ya_X} {G : ya_G} {d : ya_D} {rr : Int32} (hG : ya_Bk ya_sh ya_ln G 0) (h : f_X12_markedMany d = some rr) : ya_Ct X yX12_markedMany Y_X12_markedMany [.ref (X.2.1 + 83)] G d (some (.int rr), G, d) := by
  refine ya_ct (by decide +kernel) rfl rfl (Nat.le_of_ble_eq_true rfl) ?_
  unfold f_X12_markedMany at h
  show ya_E X Y_X12_markedMany (ya_M X (some (.int rr), G, d) 0 0) 0 [(0, .ref (X.2.1 + 83))] [] G d 0 0
  refine ya_iconst 0 (by decide) dX12_markedMany_0 ?_
  refine ya_istore_n [(1, .int 0), (0, .ref (X.2.1 + 83))] (by decide) rfl dX12_markedMany_1 ?_
  refine ya_iconst 0 (by decide) dX12_markedMany_2 ?_
  refine ya_istore_n [(2, .int 0), (1, .int 0), (0, .ref (X.2.1 + 83))] (by decide) rfl dX12_markedMany_3 ?_
  refine ya_sub [(0, .ref (X.2.1 + 83)), (1, .int 0), (2, .int 0)] [2, 1, 0] rfl ?_
  refine w_X12_markedMany_L4 hG  ya_F _ _ h
set_option maxRecDepth 20000 in
theorem w_X12_turn_L17 {X : ya_X} {G : ya_G} {v1 : Int32} {rr : (Int32 × ya_D)} (hG : ya_Bk ya_sh ya_ln G 0) : ∀ (n : Nat) (v2 : Int32) (d : ya_D), f_X12_turn_L17 v1 n v2 d = some rr → ya_E X Y_X12_turn (ya_M X (some (.int rr.1), G, rr.2) 0 0) 17 [(0, .ref (X.2.1 + 83)), (1, .int v1), (2, .int v2)] [] G d 0 0 := by
  intro n
  induction n with
  | zero => intro v2 d h; cases h
  | succ n ih =>
    intro v2 d h
    rw [f_X12_turn_L17] at h
    refine ya_iload_n 2 rfl dX12_turn_17 ?_
    refine ya_bipush 100 (by decide) dX12_turn_18 ?_
    refine ya_icmp_ge 97 (by decide) dX12_turn_20 (fun c => ?_) (fun c => ?_)
    · replace h := ya_itet h c
      refine ya_iload_n 1 rfl dX12_turn_97 ?_
      cases h
      exact ya_iret rfl rfl rfl rfl rfl (Nat.le_refl _) dX12_turn_98
    · replace h := ya_itef h c
      refine ya_aload_n 0 rfl dX12_turn_23 ?_
      refine ya_getR fo_X12_9 (hG.o0 83 rfl) (hG.lt0 83 (by decide)) (hG.l0 82 rfl) dX12_turn_24 ?_
      refine ya_bipush 11 (by decide) dX12_turn_27 ?_
      refine ya_iload_n 2 rfl dX12_turn_29 ?_
      refine ya_iadd dX12_turn_30 ?_
      refine ya_iald (hG.s0 84 rfl) (hG.lt0 84 (by decide)) dX12_turn_31 h (fun x31 h => ?_)
      refine ya_istore_n [(3, .int x31), (0, .ref (X.2.1 + 83)), (1, .int v1), (2, .int v2)] (by decide) rfl dX12_turn_32 ?_
      refine ya_aload_n 1 rfl dX12_turn_33 ?_
      refine ya_getR fo_X12_9 (hG.o0 83 rfl) (hG.lt0 83 (by decide)) (hG.l0 82 rfl) dX12_turn_34 ?_
      refine ya_bipush 11 (by decide) dX12_turn_37 ?_
      refine ya_iload_n 3 rfl dX12_turn_39 ?_
      refine ya_iadd dX12_turn_40 ?_
      refine ya_aload_n 1 rfl dX12_turn_41 ?_
      refine ya_getR fo_X12_9 (hG.o0 83 rfl) (hG.lt0 83 (by decide)) (hG.l0 82 rfl) dX12_turn_42 ?_
      refine ya_sipush 211 (by decide) dX12_turn_45 ?_
      refine ya_iload_n 3 rfl dX12_turn_48 ?_
      refine ya_iadd dX12_turn_49 ?_
      refine ya_iald (hG.s0 84 rfl) (hG.lt0 84 (by decide)) dX12_turn_50 h (fun x50 h => ?_)
      refine ya_iconst (-1) (by decide) dX12_turn_51 ?_
      refine ya_j1_s h (fun t0_69 => ya_E X Y_X12_turn (ya_M X (some (.int rr.1), G, rr.2) 0 0) 69 [(0, .ref (X.2.1 + 83)), (1, .int v1), (2, .int v2), (3, .int x31)] [.int t0_69, .int ((11 : Int32) + v2), .ref (X.2.1 + 84)] G d 0 0) (fun t0_69 h => ?_) (fun k69 hk69 h => ?_)
      · refine ya_iast (hG.s0 84 rfl) (hG.lt0 84 (by decide)) dX12_turn_69 h (fun d69 h => ?_)
        refine ya_aload_n 0 rfl dX12_turn_70 ?_
        refine ya_getR fo_X12_9 (hG.o0 83 rfl) (hG.lt0 83 (by decide)) (hG.l0 82 rfl) dX12_turn_71 ?_
        refine ya_bipush 111 (by decide) dX12_turn_74 ?_
        refine ya_iload_n 2 rfl dX12_turn_76 ?_
        refine ya_iadd dX12_turn_77 ?_
        refine ya_iload_n 3 rfl dX12_turn_78 ?_
        refine ya_iast (hG.s0 84 rfl) (hG.lt0 84 (by decide)) dX12_turn_79 h (fun d79 h => ?_)
        refine ya_aload_n 0 rfl dX12_turn_80 ?_
        refine ya_getR fo_X12_9 (hG.o0 83 rfl) (hG.lt0 83 (by decide)) (hG.l0 82 rfl) dX12_turn_81 ?_
        refine ya_sipush 211 (by decide) dX12_turn_84 ?_
        refine ya_iload_n 2 rfl dX12_turn_87 ?_
        refine ya_iadd dX12_turn_88 ?_
        refine ya_iconst (-1) (by decide) dX12_turn_89 ?_
        refine ya_iast (hG.s0 84 rfl) (hG.lt0 84 (by decide)) dX12_turn_90 h (fun d90 h => ?_)
        refine ya_iinc (v2 + 1) rfl 2 rfl [(2, .int (v2 + 1)), (0, .ref (X.2.1 + 83)), (1, .int v1), (3, .int x31)] (by decide) rfl dX12_turn_91 ?_
        refine ya_goto 17 (by decide) dX12_turn_94 ?_
        refine ya_sub [(0, .ref (X.2.1 + 83)), (1, .int v1), (2, .int (v2 + 1))] [1, 2, 0] rfl ?_
        exact ih _ _ h
      · refine ya_icmp_ne 59 (by decide) dX12_turn_52 (fun c => ?_) (fun c => ?_)
        · replace h := ya_itef h c
          refine ya_aload_n 1 rfl dX12_turn_59 ?_
          refine ya_getR fo_X12_9 (hG.o0 83 rfl) (hG.lt0 83 (by decide)) (hG.l0 82 rfl) dX12_turn_60 ?_
          refine ya_sipush 211 (by decide) dX12_turn_63 ?_
          refine ya_iload_n 3 rfl dX12_turn_66 ?_
          refine ya_iadd dX12_turn_67 ?_
          refine ya_iald (hG.s0 84 rfl) (hG.lt0 84 (by decide)) dX12_turn_68 h (fun x68 h => ?_)
          refine ya_sub [(0, .ref (X.2.1 + 83)), (1, .int v1), (2, .int v2), (3, .int x31)] [1, 2, 3, 0] rfl ?_
          exact hk69 _ h
        · replace h := ya_itet h c
          refine ya_iload_n 0 rfl dX12_turn_55 ?_
          refine ya_goto 69 (by decide) dX12_turn_56 ?_
          refine ya_sub [(0, .ref (X.2.1 + 83)), (1, .int v1), (2, .int v2), (3, .int x31)] [1, 2, 3, 0] rfl ?_
          exact hk69 _ h
set_option maxRecDepth 20000 in
theorem c_X12_turn {X : ya_X} {G : ya_G} {d : ya_D} {rr : (Int32 × ya_D)} (hG : ya_Bk ya_sh ya_ln G 0) (h : f_X12_turn d = some rr) : ya_Ct X yX12_turn Y_X12_turn [.ref (X.2.1 + 83)] G d (some (.int rr.1), G, rr.2) := by
  refine ya_ct (by decide +kernel) rfl rfl (Nat.le_of_ble_eq_true rfl) ?_
  unfold f_X12_turn at h
  show ya_E X Y_X12_turn (ya_M X (some (.int rr.1), G, rr.2) 0 0) 0 [(0, .ref (X.2.1 + 83))] [] G d 0 0
  refine ya_aload_n 0 rfl dX12_turn_0 ?_
  obtain ⟨x1, e1, h⟩ := ya_ob h
  refine ya_callVi (S := []) (c_X12_isMarket hG e1) m_X12_isMarket ⟨rfl, rfl⟩ ml_X12_330 rfl ⟨Nat.le_of_ble_eq_true rfl, Nat.le_of_ble_eq_true rfl⟩ (Nat.le_of_ble_eq_true rfl) (hG.lt0 83 (by decide)) (hG.o0 83 rfl) (by decide) rfl rfl ⟨Nat.le_refl _, Nat.le_refl _⟩ dX12_turn_1 rfl ?_
  refine ya_ifne 10 (by decide) dX12_turn_4 (fun c => ?_) (fun c => ?_)
  · replace h := ya_itef h c
    refine ya_aload_n 0 rfl dX12_turn_10 ?_
    obtain ⟨x11, e11, h⟩ := ya_ob h
    refine ya_callVi (S := []) (c_X12_markedMany hG e11) m_X12_markedMany ⟨rfl, rfl⟩ ml_X12_367 rfl ⟨Nat.le_of_ble_eq_true rfl, Nat.le_of_ble_eq_true rfl⟩ (Nat.le_of_ble_eq_true rfl) (hG.lt0 83 (by decide)) (hG.o0 83 rfl) (by decide) rfl rfl ⟨Nat.le_refl _, Nat.le_refl _⟩ dX12_turn_11 rfl ?_
    refine ya_istore_n [(1, .int x11), (0, .ref (X.2.1 + 83))] (by decide) rfl dX12_turn_14 ?_
    refine ya_iconst 0 (by decide) dX12_turn_15 ?_
    refine ya_istore_n [(2, .int 0), (1, .int x11), (0, .ref (X.2.1 + 83))] (by decide) rfl dX12_turn_16 ?_
    refine ya_sub [(0, .ref (X.2.1 + 83)), (1, .int x11), (2, .int 0)] [2, 1, 0] rfl ?_
    refine w_X12_turn_L17 hG  ya_F _ _ h
  · replace h := ya_itet h c
    refine ya_bipush (-2) (by decide) dX12_turn_7 ?_
    cases h
    exact ya_iret rfl rfl rfl rfl rfl (Nat.le_refl _) dX12_turn_9
set_option maxRecDepth 20000 in
theorem c_X12_madeBy {X : ya_X} {G : ya_G} {v1 : Int32} {v2 : Int32} {v3 : Int32} {d : ya_D} {rr : (Int32 × ya_D)} (hG : ya_Bk ya_sh ya_ln G 0) (h : f_X12_madeBy v1 v2 v3 d = some rr) : ya_Ct X yX12_madeBy Y_X12_madeBy [.ref (X.2.1 + 83), .int v1, .int v2, .int v3] G d (some (.int rr.1), G, rr.2) := by
  refine ya_ct (by decide +kernel) rfl rfl (Nat.le_of_ble_eq_true rfl) ?_
  unfold f_X12_madeBy at h
  show ya_E X Y_X12_madeBy (ya_M X (some (.int rr.1), G, rr.2) 0 0) 0 [(0, .ref (X.2.1 + 83)), (1, .int v1), (2, .int v2), (3, .int v3)] [] G d 0 0
  refine ya_bipush 11 (by decide) dX12_madeBy_0 ?_
  refine ya_aload_n 0 rfl dX12_madeBy_2 ?_
  refine ya_iload_n 1 rfl dX12_madeBy_3 ?_
  obtain ⟨x4, e4, h⟩ := ya_ob h
  refine ya_callVi (S := [.int 11]) (c_X12_thingOf hG e4) m_X12_thingOf ⟨rfl, rfl⟩ ml_X12_270 rfl ⟨Nat.le_of_ble_eq_true rfl, Nat.le_of_ble_eq_true rfl⟩ (Nat.le_of_ble_eq_true rfl) (hG.lt0 83 (by decide)) (hG.o0 83 rfl) (by decide) rfl rfl ⟨Nat.le_refl _, Nat.le_refl _⟩ dX12_madeBy_4 rfl ?_
  refine ya_iload_n 2 rfl dX12_madeBy_7 ?_
  obtain ⟨x8, e8, h⟩ := ya_ob h
  refine ya_callSi (S := [.int 11]) (c_X12_at hG e8) m_X12_at ⟨rfl, rfl⟩ ml_X12_105 rfl ⟨Nat.le_of_ble_eq_true rfl, Nat.le_of_ble_eq_true rfl⟩ (Nat.le_of_ble_eq_true rfl) ⟨Nat.le_refl _, Nat.le_refl _⟩ dX12_madeBy_8 rfl ?_
  refine ya_iadd dX12_madeBy_11 ?_
  refine ya_istore [(4, .int ((11 : Int32) + x8)), (0, .ref (X.2.1 + 83)), (1, .int v1), (2, .int v2), (3, .int v3)] (by decide) rfl dX12_madeBy_12 ?_
  refine ya_aload_n 1 rfl dX12_madeBy_14 ?_
  refine ya_getR fo_X12_9 (hG.o0 83 rfl) (hG.lt0 83 (by decide)) (hG.l0 82 rfl) dX12_madeBy_15 ?_
  refine ya_iload 0 rfl dX12_madeBy_18 ?_
  refine ya_iald (hG.s0 84 rfl) (hG.lt0 84 (by decide)) dX12_madeBy_20 h (fun x20 h => ?_)
  refine ya_istore [(5, .int x20), (4, .int ((11 : Int32) + x8)), (0, .ref (X.2.1 + 83)), (1, .int v1), (2, .int v2), (3, .int v3)] (by decide) rfl dX12_madeBy_21 ?_
  refine ya_aload_n 2 rfl dX12_madeBy_23 ?_
  refine ya_iload_n 3 rfl dX12_madeBy_24 ?_
  refine ya_iconst (-1) (by decide) dX12_madeBy_25 ?_
  obtain ⟨x26, d26, e26, h⟩ := ya_ob2 h
  refine ya_callVi (S := []) (c_X12_bestBut hG e26) m_X12_bestBut ⟨rfl, rfl⟩ ml_X12_350 rfl ⟨Nat.le_of_ble_eq_true rfl, Nat.le_of_ble_eq_true rfl⟩ (Nat.le_of_ble_eq_true rfl) (hG.lt0 83 (by decide)) (hG.o0 83 rfl) (by decide) rfl rfl ⟨Nat.le_refl _, Nat.le_refl _⟩ dX12_madeBy_26 rfl ?_
  refine ya_istore [(6, .int x26), (5, .int x20), (4, .int ((11 : Int32) + x8)), (0, .ref (X.2.1 + 83)), (1, .int v1), (2, .int v2), (3, .int v3)] (by decide) rfl dX12_madeBy_29 ?_
  refine ya_aload_n 3 rfl dX12_madeBy_31 ?_
  refine ya_getR fo_X12_9 (hG.o0 83 rfl) (hG.lt0 83 (by decide)) (hG.l0 82 rfl) dX12_madeBy_32 ?_
  refine ya_iload 2 rfl dX12_madeBy_35 ?_
  refine ya_iload_n 6 rfl dX12_madeBy_37 ?_
  refine ya_iast (hG.s0 84 rfl) (hG.lt0 84 (by decide)) dX12_madeBy_38 h (fun d38 h => ?_)
  refine ya_aload_n 3 rfl dX12_madeBy_39 ?_
  refine ya_iload_n 4 rfl dX12_madeBy_40 ?_
  refine ya_iconst (-1) (by decide) dX12_madeBy_41 ?_
  obtain ⟨x42, d42, e42, h⟩ := ya_ob2 h
  refine ya_callVi (S := []) (c_X12_bestBut hG e42) m_X12_bestBut ⟨rfl, rfl⟩ ml_X12_350 rfl ⟨Nat.le_of_ble_eq_true rfl, Nat.le_of_ble_eq_true rfl⟩ (Nat.le_of_ble_eq_true rfl) (hG.lt0 83 (by decide)) (hG.o0 83 rfl) (by decide) rfl rfl ⟨Nat.le_refl _, Nat.le_refl _⟩ dX12_madeBy_42 rfl ?_
  refine ya_istore [(7, .int x42), (6, .int x26), (5, .int x20), (4, .int ((11 : Int32) + x8)), (0, .ref (X.2.1 + 83)), (1, .int v1), (2, .int v2), (3, .int v3)] (by decide) rfl dX12_madeBy_45 ?_
  refine ya_aload_n 4 rfl dX12_madeBy_47 ?_
  refine ya_getR fo_X12_9 (hG.o0 83 rfl) (hG.lt0 83 (by decide)) (hG.l0 82 rfl) dX12_madeBy_48 ?_
  refine ya_iload 3 rfl dX12_madeBy_51 ?_
  refine ya_iload 2 rfl dX12_madeBy_53 ?_
  refine ya_iast (hG.s0 84 rfl) (hG.lt0 84 (by decide)) dX12_madeBy_55 h (fun d55 h => ?_)
  refine ya_iload 0 rfl dX12_madeBy_56 ?_
  refine ya_iload 1 rfl dX12_madeBy_58 ?_
  refine ya_isub dX12_madeBy_60 ?_
  cases h
  exact ya_iret rfl rfl rfl rfl rfl (Nat.le_refl _) dX12_madeBy_61
set_option maxRecDepth 20000 in
theorem c_X12_made {X : ya_X} {G : ya_G} {v1 : Int32} {v2 : Int32} {v3 : Int32} {d : ya_D} {rr : (Int32 × ya_D)} (hG : ya_Bk ya_sh ya_ln G 0) (h : f_X12_made v1 v2 v3 d = some rr) : ya_Ct X yX12_made Y_X12_made [.ref (X.2.1 + 83), .int v1, .int v2, .int v3] G d (some (.int rr.1), G, rr.2) := by
  refine ya_ct (by decide +kernel) rfl rfl (Nat.le_of_ble_eq_true rfl) ?_
  unfold f_X12_made at h
  show ya_E X Y_X12_made (ya_M X (some (.int rr.1), G, rr.2) 0 0) 0 [(0, .ref (X.2.1 + 83)), (1, .int v1), (2, .int v2), (3, .int v3)] [] G d 0 0
  refine ya_aload_n 0 rfl dX12_made_0 ?_
  refine ya_iload_n 1 rfl dX12_made_1 ?_
  obtain ⟨x2, e2, h⟩ := ya_ob h
  refine ya_callVi (S := []) (c_X12_isSeller hG e2) m_X12_isSeller ⟨rfl, rfl⟩ ml_X12_315 rfl ⟨Nat.le_of_ble_eq_true rfl, Nat.le_of_ble_eq_true rfl⟩ (Nat.le_of_ble_eq_true rfl) (hG.lt0 83 (by decide)) (hG.o0 83 rfl) (by decide) rfl rfl ⟨Nat.le_refl _, Nat.le_refl _⟩ dX12_made_2 rfl ?_
  refine ya_j0_s h (ya_E X Y_X12_made (ya_M X (some (.int rr.1), G, rr.2) 0 0) 39 [] [] G d 0 0) (fun h => ?_) (fun k39 hk39 h => ?_)
  · refine ya_ldcw (-1000000) kc_X12_374 dX12_made_39 ?_
    cases h
    exact ya_iret rfl rfl rfl rfl rfl (Nat.le_refl _) dX12_made_42
  · refine ya_ifeq 39 (by decide) dX12_made_5 (fun c => ?_) (fun c => ?_)
    · replace h := ya_itet h c
      refine ya_sub [] [] rfl ?_
      exact hk39  h
    · replace h := ya_itef h c
      refine ya_aload_n 0 rfl dX12_made_8 ?_
      refine ya_iload_n 2 rfl dX12_made_9 ?_
      refine ya_i2l dX12_made_10 ?_
      obtain ⟨x11, e11, h⟩ := ya_ob h
      refine ya_callVi (S := []) (c_X12_isDay hG e11) m_X12_isDay ⟨rfl, rfl⟩ ml_X12_102 rfl ⟨Nat.le_of_ble_eq_true rfl, Nat.le_of_ble_eq_true rfl⟩ (Nat.le_of_ble_eq_true rfl) (hG.lt0 83 (by decide)) (hG.o0 83 rfl) (by decide) rfl rfl ⟨Nat.le_refl _, Nat.le_refl _⟩ dX12_made_11 rfl ?_
      refine ya_ifeq 39 (by decide) dX12_made_14 (fun c => ?_) (fun c => ?_)
      · replace h := ya_itet h c
        refine ya_sub [] [] rfl ?_
        exact hk39  h
      · replace h := ya_itef h c
        refine ya_iload_n 3 rfl dX12_made_17 ?_
        refine ya_i2l dX12_made_18 ?_
        refine ya_lconst 0 rfl dX12_made_19 ?_
        refine ya_ldc2 99 kc_X12_356 dX12_made_20 ?_
        obtain ⟨x23, e23, h⟩ := ya_ob h
        refine ya_callSi (S := []) (c_X12_in hG e23) m_X12_in ⟨rfl, rfl⟩ ml_X12_94 rfl ⟨Nat.le_of_ble_eq_true rfl, Nat.le_of_ble_eq_true rfl⟩ (Nat.le_of_ble_eq_true rfl) ⟨Nat.le_refl _, Nat.le_refl _⟩ dX12_made_23 rfl ?_
        refine ya_ifeq 39 (by decide) dX12_made_26 (fun c => ?_) (fun c => ?_)
        · replace h := ya_itet h c
          refine ya_sub [] [] rfl ?_
          exact hk39  h
        · replace h := ya_itef h c
          refine ya_aload_n 0 rfl dX12_made_29 ?_
          refine ya_iload_n 1 rfl dX12_made_30 ?_
          refine ya_iload_n 2 rfl dX12_made_31 ?_
          refine ya_iload_n 3 rfl dX12_made_32 ?_
          obtain ⟨x33, d33, e33, h⟩ := ya_ob2 h
          refine ya_callVi (S := []) (c_X12_madeBy hG e33) m_X12_madeBy ⟨rfl, rfl⟩ ml_X12_370 rfl ⟨Nat.le_of_ble_eq_true rfl, Nat.le_of_ble_eq_true rfl⟩ (Nat.le_of_ble_eq_true rfl) (hG.lt0 83 (by decide)) (hG.o0 83 rfl) (by decide) rfl rfl ⟨Nat.le_refl _, Nat.le_refl _⟩ dX12_made_33 rfl ?_
          refine ya_goto 42 (by decide) dX12_made_36 ?_
          cases h
          exact ya_iret rfl rfl rfl rfl rfl (Nat.le_refl _) dX12_made_42
set_option maxRecDepth 20000 in
theorem w_X12_least_L35 {X : ya_X} {G : ya_G} {v1 : Int32} {v2 : Int32} {v3 : Int32} {rr : (Int32 × ya_D)} (hG : ya_Bk ya_sh ya_ln G 0) : ∀ (n : Nat) (v4 : Int32) (d : ya_D), f_X12_least_L35 v1 v2 v3 n v4 d = some rr → ya_E X Y_X12_least (ya_M X (some (.int rr.1), G, rr.2) 0 0) 35 [(0, .ref (X.2.1 + 83)), (1, .int v1), (2, .int v2), (3, .int v3), (4, .int v4)] [] G d 0 0 := by
  intro n
  induction n with
  | zero => intro v4 d h; cases h
  | succ n ih =>
    intro v4 d h
    rw [f_X12_least_L35] at h
    refine ya_iload 4 rfl dX12_least_35 ?_
    refine ya_bipush 99 (by decide) dX12_least_37 ?_
    refine ya_icmp_gt 63 (by decide) dX12_least_39 (fun c => ?_) (fun c => ?_)
    · replace h := ya_itet h c
      refine ya_iconst (-1) (by decide) dX12_least_63 ?_
      cases h
      exact ya_iret rfl rfl rfl rfl rfl (Nat.le_refl _) dX12_least_64
    · replace h := ya_itef h c
      refine ya_aload_n 0 rfl dX12_least_42 ?_
      refine ya_iload_n 1 rfl dX12_least_43 ?_
      refine ya_iload_n 2 rfl dX12_least_44 ?_
      refine ya_iload 4 rfl dX12_least_45 ?_
      obtain ⟨x47, d47, e47, h⟩ := ya_ob2 h
      refine ya_callVi (S := []) (c_X12_madeBy hG e47) m_X12_madeBy ⟨rfl, rfl⟩ ml_X12_370 rfl ⟨Nat.le_of_ble_eq_true rfl, Nat.le_of_ble_eq_true rfl⟩ (Nat.le_of_ble_eq_true rfl) (hG.lt0 83 (by decide)) (hG.o0 83 rfl) (by decide) rfl rfl ⟨Nat.le_refl _, Nat.le_refl _⟩ dX12_least_47 rfl ?_
      refine ya_iload_n 3 rfl dX12_least_50 ?_
      refine ya_icmp_lt 57 (by decide) dX12_least_51 (fun c => ?_) (fun c => ?_)
      · replace h := ya_itet h c
        refine ya_iinc (v4 + 1) rfl 4 rfl [(4, .int (v4 + 1)), (0, .ref (X.2.1 + 83)), (1, .int v1), (2, .int v2), (3, .int v3)] (by decide) rfl dX12_least_57 ?_
        refine ya_goto 35 (by decide) dX12_least_60 ?_
        refine ya_sub [(0, .ref (X.2.1 + 83)), (1, .int v1), (2, .int v2), (3, .int v3), (4, .int (v4 + 1))] [1, 2, 3, 4, 0] rfl ?_
        exact ih _ _ h
      · replace h := ya_itef h c
        refine ya_iload 4 rfl dX12_least_54 ?_
        cases h
        exact ya_iret rfl rfl rfl rfl rfl (Nat.le_refl _) dX12_least_56
set_option maxRecDepth 20000 in
theorem c_X12_least {X : ya_X} {G : ya_G} {v1 : Int32} {v2 : Int32} {v3 : Int32} {d : ya_D} {rr : (Int32 × ya_D)} (hG : ya_Bk ya_sh ya_ln G 0) (h : f_X12_least v1 v2 v3 d = some rr) : ya_Ct X yX12_least Y_X12_least [.ref (X.2.1 + 83), .int v1, .int v2, .int v3] G d (some (.int rr.1), G, rr.2) := by
  refine ya_ct (by decide +kernel) rfl rfl (Nat.le_of_ble_eq_true rfl) ?_
  unfold f_X12_least at h
  show ya_E X Y_X12_least (ya_M X (some (.int rr.1), G, rr.2) 0 0) 0 [(0, .ref (X.2.1 + 83)), (1, .int v1), (2, .int v2), (3, .int v3)] [] G d 0 0
  refine ya_aload_n 0 rfl dX12_least_0 ?_
  refine ya_iload_n 1 rfl dX12_least_1 ?_
  obtain ⟨x2, e2, h⟩ := ya_ob h
  refine ya_callVi (S := []) (c_X12_isSeller hG e2) m_X12_isSeller ⟨rfl, rfl⟩ ml_X12_315 rfl ⟨Nat.le_of_ble_eq_true rfl, Nat.le_of_ble_eq_true rfl⟩ (Nat.le_of_ble_eq_true rfl) (hG.lt0 83 (by decide)) (hG.o0 83 rfl) (by decide) rfl rfl ⟨Nat.le_refl _, Nat.le_refl _⟩ dX12_least_2 rfl ?_
  refine ya_j0_s h (ya_E X Y_X12_least (ya_M X (some (.int rr.1), G, rr.2) 0 0) 29 [] [] G d 0 0) (fun h => ?_) (fun k29 hk29 h => ?_)
  · refine ya_bipush (-2) (by decide) dX12_least_29 ?_
    cases h
    exact ya_iret rfl rfl rfl rfl rfl (Nat.le_refl _) dX12_least_31
  · refine ya_ifeq 29 (by decide) dX12_least_5 (fun c => ?_) (fun c => ?_)
    · replace h := ya_itet h c
      refine ya_sub [] [] rfl ?_
      exact hk29  h
    · replace h := ya_itef h c
      refine ya_aload_n 0 rfl dX12_least_8 ?_
      refine ya_iload_n 2 rfl dX12_least_9 ?_
      refine ya_i2l dX12_least_10 ?_
      obtain ⟨x11, e11, h⟩ := ya_ob h
      refine ya_callVi (S := []) (c_X12_isDay hG e11) m_X12_isDay ⟨rfl, rfl⟩ ml_X12_102 rfl ⟨Nat.le_of_ble_eq_true rfl, Nat.le_of_ble_eq_true rfl⟩ (Nat.le_of_ble_eq_true rfl) (hG.lt0 83 (by decide)) (hG.o0 83 rfl) (by decide) rfl rfl ⟨Nat.le_refl _, Nat.le_refl _⟩ dX12_least_11 rfl ?_
      refine ya_ifeq 29 (by decide) dX12_least_14 (fun c => ?_) (fun c => ?_)
      · replace h := ya_itet h c
        refine ya_sub [] [] rfl ?_
        exact hk29  h
      · replace h := ya_itef h c
        refine ya_iload_n 3 rfl dX12_least_17 ?_
        refine ya_i2l dX12_least_18 ?_
        refine ya_lconst 1 rfl dX12_least_19 ?_
        refine ya_ldc2 9999 kc_X12_375 dX12_least_20 ?_
        obtain ⟨x23, e23, h⟩ := ya_ob h
        refine ya_callSi (S := []) (c_X12_in hG e23) m_X12_in ⟨rfl, rfl⟩ ml_X12_94 rfl ⟨Nat.le_of_ble_eq_true rfl, Nat.le_of_ble_eq_true rfl⟩ (Nat.le_of_ble_eq_true rfl) ⟨Nat.le_refl _, Nat.le_refl _⟩ dX12_least_23 rfl ?_
        refine ya_ifne 32 (by decide) dX12_least_26 (fun c => ?_) (fun c => ?_)
        · replace h := ya_itef h c
          refine ya_iconst 0 (by decide) dX12_least_32 ?_
          refine ya_istore [(4, .int 0), (0, .ref (X.2.1 + 83)), (1, .int v1), (2, .int v2), (3, .int v3)] (by decide) rfl dX12_least_33 ?_
          refine ya_sub [(0, .ref (X.2.1 + 83)), (1, .int v1), (2, .int v2), (3, .int v3), (4, .int 0)] [1, 2, 3, 4, 0] rfl ?_
          refine w_X12_least_L35 hG  ya_F _ _ h
        · replace h := ya_itet h c
          refine ya_sub [] [] rfl ?_
          exact hk29  h
set_option maxRecDepth 20000 in
theorem w_X12_most_L57 {X : ya_X} {G : ya_G} {v1 : Int32} {v4 : Int32} {v5 : Int32} {rr : (Int32 × ya_D)} {e102 : Int32 → Int32 → ya_D → Option (Int32 × ya_D)} (hG : ya_Bk ya_sh ya_ln G 0) (he102 : ∀ (v2 : Int32) (v3 : Int32) (d : ya_D), e102 v2 v3 d = some rr → ya_E X Y_X12_most (ya_M X (some (.int rr.1), G, rr.2) 0 0) 102 [(0, .ref (X.2.1 + 83)), (1, .int v1), (2, .int v2), (3, .int v3), (4, .int v4)] [] G d 0 0) : ∀ (n : Nat) (v2 : Int32) (v3 : Int32) (v6 : Int32) (d : ya_D), f_X12_most_L57 v1 v4 v5 e102 n v2 v3 v6 d = some rr → ya_E X Y_X12_most (ya_M X (some (.int rr.1), G, rr.2) 0 0) 57 [(0, .ref (X.2.1 + 83)), (1, .int v1), (2, .int v2), (3, .int v3), (4, .int v4), (5, .int v5), (6, .int v6)] [] G d 0 0 := by
  intro n
  induction n with
  | zero => intro v2 v3 v6 d h; cases h
  | succ n ih =>
    intro v2 v3 v6 d h
    rw [f_X12_most_L57] at h
    refine ya_iload 6 rfl dX12_most_57 ?_
    refine ya_iload 5 rfl dX12_most_59 ?_
    refine ya_icmp_gt 102 (by decide) dX12_most_61 (fun c => ?_) (fun c => ?_)
    · replace h := ya_itet h c
      refine ya_sub [(0, .ref (X.2.1 + 83)), (1, .int v1), (2, .int v2), (3, .int v3), (4, .int v4)] [0, 1, 2, 3, 4] rfl ?_
      exact he102 _ _ _ h
    · replace h := ya_itef h c
      refine ya_aload_n 0 rfl dX12_most_64 ?_
      refine ya_iload_n 1 rfl dX12_most_65 ?_
      refine ya_iload 4 rfl dX12_most_66 ?_
      refine ya_iload 6 rfl dX12_most_68 ?_
      obtain ⟨x70, d70, e70, h⟩ := ya_ob2 h
      refine ya_callVi (S := []) (c_X12_madeBy hG e70) m_X12_madeBy ⟨rfl, rfl⟩ ml_X12_370 rfl ⟨Nat.le_of_ble_eq_true rfl, Nat.le_of_ble_eq_true rfl⟩ (Nat.le_of_ble_eq_true rfl) (hG.lt0 83 (by decide)) (hG.o0 83 rfl) (by decide) rfl rfl ⟨Nat.le_refl _, Nat.le_refl _⟩ dX12_most_70 rfl ?_
      refine ya_istore [(7, .int x70), (0, .ref (X.2.1 + 83)), (1, .int v1), (2, .int v2), (3, .int v3), (4, .int v4), (5, .int v5), (6, .int v6)] (by decide) rfl dX12_most_73 ?_
      refine ya_iload 0 rfl dX12_most_75 ?_
      refine ya_iload_n 4 rfl dX12_most_77 ?_
      refine ya_j2_s h (fun v2_96 v3_96 => ya_E X Y_X12_most (ya_M X (some (.int rr.1), G, rr.2) 0 0) 96 [(0, .ref (X.2.1 + 83)), (1, .int v1), (2, .int v2_96), (3, .int v3_96), (4, .int v4), (5, .int v5), (6, .int v6)] [] G d70 0 0) (fun v2_96 v3_96 h => ?_) (fun k96 hk96 h => ?_)
      · refine ya_iinc (v6 + 1) rfl 6 rfl [(6, .int (v6 + 1)), (0, .ref (X.2.1 + 83)), (1, .int v1), (2, .int v2_96), (3, .int v3_96), (4, .int v4), (5, .int v5)] (by decide) rfl dX12_most_96 ?_
        refine ya_goto 57 (by decide) dX12_most_99 ?_
        refine ya_sub [(0, .ref (X.2.1 + 83)), (1, .int v1), (2, .int v2_96), (3, .int v3_96), (4, .int v4), (5, .int v5), (6, .int (v6 + 1))] [1, 2, 3, 4, 5, 6, 0] rfl ?_
        exact ih _ _ _ _ h
      · refine ya_icmp_gt 84 (by decide) dX12_most_78 (fun c => ?_) (fun c => ?_)
        · replace h := ya_itet h c
          refine ya_bipush 100 (by decide) dX12_most_84 ?_
          refine ya_iload 5 rfl dX12_most_86 ?_
          refine ya_imul dX12_most_88 ?_
          refine ya_iload 7 rfl dX12_most_89 ?_
          refine ya_iadd dX12_most_91 ?_
          refine ya_istore_n [(2, .int (((100 : Int32) * v4) + v6)), (7, .int x70), (0, .ref (X.2.1 + 83)), (1, .int v1), (3, .int v3), (4, .int v4), (5, .int v5), (6, .int v6)] (by decide) rfl dX12_most_92 ?_
          refine ya_iload 1 rfl dX12_most_93 ?_
          refine ya_istore_n [(3, .int x70), (2, .int (((100 : Int32) * v4) + v6)), (7, .int x70), (0, .ref (X.2.1 + 83)), (1, .int v1), (4, .int v4), (5, .int v5), (6, .int v6)] (by decide) rfl dX12_most_95 ?_
          refine ya_sub [(0, .ref (X.2.1 + 83)), (1, .int v1), (2, .int (((100 : Int32) * v4) + v6)), (3, .int x70), (4, .int v4), (5, .int v5), (6, .int v6)] [3, 4, 1, 0, 5, 6, 7] rfl ?_
          exact hk96 _ _ h
        · replace h := ya_itef h c
          refine ya_goto 96 (by decide) dX12_most_81 ?_
          refine ya_sub [(0, .ref (X.2.1 + 83)), (1, .int v1), (2, .int v2), (3, .int v3), (4, .int v4), (5, .int v5), (6, .int v6)] [1, 2, 3, 4, 5, 6, 7] rfl ?_
          exact hk96 _ _ h
set_option maxRecDepth 20000 in
theorem w_X12_most_L18 {X : ya_X} {G : ya_G} {v1 : Int32} {rr : (Int32 × ya_D)} (hG : ya_Bk ya_sh ya_ln G 0) : ∀ (n : Nat) (v2 : Int32) (v3 : Int32) (v4 : Int32) (d : ya_D), f_X12_most_L18 v1 n v2 v3 v4 d = some rr → ya_E X Y_X12_most (ya_M X (some (.int rr.1), G, rr.2) 0 0) 18 [(0, .ref (X.2.1 + 83)), (1, .int v1), (2, .int v2), (3, .int v3), (4, .int v4)] [] G d 0 0 := by
  intro n
  induction n with
  | zero => intro v2 v3 v4 d h; cases h
  | succ n ih =>
    intro v2 v3 v4 d h
    rw [f_X12_most_L18] at h
    refine ya_iload 4 rfl dX12_most_18 ?_
    refine ya_aload_n 0 rfl dX12_most_20 ?_
    refine ya_getR fo_X12_9 (hG.o0 83 rfl) (hG.lt0 83 (by decide)) (hG.l0 82 rfl) dX12_most_21 ?_
    refine ya_iconst 0 (by decide) dX12_most_24 ?_
    refine ya_iald (hG.s0 84 rfl) (hG.lt0 84 (by decide)) dX12_most_25 h (fun x25 h => ?_)
    refine ya_icmp_ge 108 (by decide) dX12_most_26 (fun c => ?_) (fun c => ?_)
    · replace h := ya_itet h c
      refine ya_iload_n 2 rfl dX12_most_108 ?_
      cases h
      exact ya_iret rfl rfl rfl rfl rfl (Nat.le_refl _) dX12_most_109
    · replace h := ya_itef h c
      refine ya_bipush 99 (by decide) dX12_most_29 ?_
      refine ya_aload_n 0 rfl dX12_most_31 ?_
      refine ya_aload_n 0 rfl dX12_most_32 ?_
      refine ya_iload_n 1 rfl dX12_most_33 ?_
      obtain ⟨x34, e34, h⟩ := ya_ob h
      refine ya_callVi (S := [.ref (X.2.1 + 83), .int 99]) (c_X12_thingOf hG e34) m_X12_thingOf ⟨rfl, rfl⟩ ml_X12_270 rfl ⟨Nat.le_of_ble_eq_true rfl, Nat.le_of_ble_eq_true rfl⟩ (Nat.le_of_ble_eq_true rfl) (hG.lt0 83 (by decide)) (hG.o0 83 rfl) (by decide) rfl rfl ⟨Nat.le_refl _, Nat.le_refl _⟩ dX12_most_34 rfl ?_
      refine ya_iload 4 rfl dX12_most_37 ?_
      obtain ⟨x39, e39, h⟩ := ya_ob h
      refine ya_callVi (S := [.int 99]) (c_X12_priceOf hG e39) m_X12_priceOf ⟨rfl, rfl⟩ ml_X12_263 rfl ⟨Nat.le_of_ble_eq_true rfl, Nat.le_of_ble_eq_true rfl⟩ (Nat.le_of_ble_eq_true rfl) (hG.lt0 83 (by decide)) (hG.o0 83 rfl) (by decide) rfl rfl ⟨Nat.le_refl _, Nat.le_refl _⟩ dX12_most_39 rfl ?_
      refine ya_aload_n 0 rfl dX12_most_42 ?_
      refine ya_getR fo_X12_9 (hG.o0 83 rfl) (hG.lt0 83 (by decide)) (hG.l0 82 rfl) dX12_most_43 ?_
      refine ya_iconst 5 (by decide) dX12_most_46 ?_
      refine ya_iald (hG.s0 84 rfl) (hG.lt0 84 (by decide)) dX12_most_47 h (fun x47 h => ?_)
      refine ya_iadd dX12_most_48 ?_
      refine ya_mmin ml_X12_142 wm_min1 wm_min2 wm_min3 (by decide) (Nat.le_of_ble_eq_true rfl) ⟨Nat.le_refl _, Nat.le_refl _⟩ dX12_most_49 ?_
      refine ya_istore [(5, .int (ya_min 99 (x39 + x47))), (0, .ref (X.2.1 + 83)), (1, .int v1), (2, .int v2), (3, .int v3), (4, .int v4)] (by decide) rfl dX12_most_52 ?_
      refine ya_iconst 0 (by decide) dX12_most_54 ?_
      refine ya_istore [(6, .int 0), (5, .int (ya_min 99 (x39 + x47))), (0, .ref (X.2.1 + 83)), (1, .int v1), (2, .int v2), (3, .int v3), (4, .int v4)] (by decide) rfl dX12_most_55 ?_
      refine ya_sub [(0, .ref (X.2.1 + 83)), (1, .int v1), (2, .int v2), (3, .int v3), (4, .int v4), (5, .int (ya_min 99 (x39 + x47))), (6, .int 0)] [2, 3, 4, 5, 6, 1, 0] rfl ?_
      refine w_X12_most_L57 hG (fun v2_102 v3_102 d_102 h => ?_) ya_F _ _ _ _ h
      refine ya_iinc (v4 + 1) rfl 4 rfl [(4, .int (v4 + 1)), (0, .ref (X.2.1 + 83)), (1, .int v1), (2, .int v2_102), (3, .int v3_102)] (by decide) rfl dX12_most_102 ?_
      refine ya_goto 18 (by decide) dX12_most_105 ?_
      refine ya_sub [(0, .ref (X.2.1 + 83)), (1, .int v1), (2, .int v2_102), (3, .int v3_102), (4, .int (v4 + 1))] [1, 2, 3, 4, 0] rfl ?_
      exact ih _ _ _ _ h
set_option maxRecDepth 20000 in
theorem c_X12_most {X : ya_X} {G : ya_G} {v1 : Int32} {d : ya_D} {rr : (Int32 × ya_D)} (hG : ya_Bk ya_sh ya_ln G 0) (h : f_X12_most v1 d = some rr) : ya_Ct X yX12_most Y_X12_most [.ref (X.2.1 + 83), .int v1] G d (some (.int rr.1), G, rr.2) := by
  refine ya_ct (by decide +kernel) rfl rfl (Nat.le_of_ble_eq_true rfl) ?_
  unfold f_X12_most at h
  show ya_E X Y_X12_most (ya_M X (some (.int rr.1), G, rr.2) 0 0) 0 [(0, .ref (X.2.1 + 83)), (1, .int v1)] [] G d 0 0
  refine ya_aload_n 0 rfl dX12_most_0 ?_
  refine ya_iload_n 1 rfl dX12_most_1 ?_
  obtain ⟨x2, e2, h⟩ := ya_ob h
  refine ya_callVi (S := []) (c_X12_isSeller hG e2) m_X12_isSeller ⟨rfl, rfl⟩ ml_X12_315 rfl ⟨Nat.le_of_ble_eq_true rfl, Nat.le_of_ble_eq_true rfl⟩ (Nat.le_of_ble_eq_true rfl) (hG.lt0 83 (by decide)) (hG.o0 83 rfl) (by decide) rfl rfl ⟨Nat.le_refl _, Nat.le_refl _⟩ dX12_most_2 rfl ?_
  refine ya_ifne 11 (by decide) dX12_most_5 (fun c => ?_) (fun c => ?_)
  · replace h := ya_itef h c
    refine ya_iconst (-1) (by decide) dX12_most_11 ?_
    refine ya_istore_n [(2, .int (-1)), (0, .ref (X.2.1 + 83)), (1, .int v1)] (by decide) rfl dX12_most_12 ?_
    refine ya_iconst 0 (by decide) dX12_most_13 ?_
    refine ya_istore_n [(3, .int 0), (2, .int (-1)), (0, .ref (X.2.1 + 83)), (1, .int v1)] (by decide) rfl dX12_most_14 ?_
    refine ya_iconst 0 (by decide) dX12_most_15 ?_
    refine ya_istore [(4, .int 0), (3, .int 0), (2, .int (-1)), (0, .ref (X.2.1 + 83)), (1, .int v1)] (by decide) rfl dX12_most_16 ?_
    refine ya_sub [(0, .ref (X.2.1 + 83)), (1, .int v1), (2, .int (-1)), (3, .int 0), (4, .int 0)] [3, 4, 2, 1, 0] rfl ?_
    refine w_X12_most_L18 hG  ya_F _ _ _ _ h
  · replace h := ya_itet h c
    refine ya_bipush (-2) (by decide) dX12_most_8 ?_
    cases h
    exact ya_iret rfl rfl rfl rfl rfl (Nat.le_refl _) dX12_most_10
set_option maxRecDepth 20000 in
theorem c_X12_leap {X : ya_X} {G : ya_G} {v1 : Int32} {v2 : Int32} {v3 : Int32} {d : ya_D} {rr : Int32} (hG : ya_Bk ya_sh ya_ln G 0) (h : f_X12_leap v1 v2 v3 d = some rr) : ya_Ct X yX12_leap Y_X12_leap [.ref (X.2.1 + 83), .int v1, .int v2, .int v3] G d (some (.int rr), G, d) := by
  refine ya_ct (by decide +kernel) rfl rfl (Nat.le_of_ble_eq_true rfl) ?_
  unfold f_X12_leap at h
  show ya_E X Y_X12_leap (ya_M X (some (.int rr), G, d) 0 0) 0 [(0, .ref (X.2.1 + 83)), (1, .int v1), (2, .int v2), (3, .int v3)] [] G d 0 0
  refine ya_aload_n 0 rfl dX12_leap_0 ?_
  refine ya_iload_n 1 rfl dX12_leap_1 ?_
  refine ya_iload_n 2 rfl dX12_leap_2 ?_
  obtain ⟨x3, e3, h⟩ := ya_ob h
  refine ya_callVi (S := []) (c_X12_areSo hG e3) m_X12_areSo ⟨rfl, rfl⟩ ml_X12_307 rfl ⟨Nat.le_of_ble_eq_true rfl, Nat.le_of_ble_eq_true rfl⟩ (Nat.le_of_ble_eq_true rfl) (hG.lt0 83 (by decide)) (hG.o0 83 rfl) (by decide) rfl rfl ⟨Nat.le_refl _, Nat.le_refl _⟩ dX12_leap_3 rfl ?_
  refine ya_j0_s h (ya_E X Y_X12_leap (ya_M X (some (.int rr), G, d) 0 0) 21 [] [] G d 0 0) (fun h => ?_) (fun k21 hk21 h => ?_)
  · refine ya_bipush (-2) (by decide) dX12_leap_21 ?_
    cases h
    exact ya_iret rfl rfl rfl rfl rfl (Nat.le_refl _) dX12_leap_23
  · refine ya_ifeq 21 (by decide) dX12_leap_6 (fun c => ?_) (fun c => ?_)
    · replace h := ya_itet h c
      refine ya_sub [] [] rfl ?_
      exact hk21  h
    · replace h := ya_itef h c
      refine ya_iload_n 3 rfl dX12_leap_9 ?_
      refine ya_i2l dX12_leap_10 ?_
      refine ya_lconst 0 rfl dX12_leap_11 ?_
      refine ya_ldc2 2 kc_X12_92 dX12_leap_12 ?_
      obtain ⟨x15, e15, h⟩ := ya_ob h
      refine ya_callSi (S := []) (c_X12_in hG e15) m_X12_in ⟨rfl, rfl⟩ ml_X12_94 rfl ⟨Nat.le_of_ble_eq_true rfl, Nat.le_of_ble_eq_true rfl⟩ (Nat.le_of_ble_eq_true rfl) ⟨Nat.le_refl _, Nat.le_refl _⟩ dX12_leap_15 rfl ?_
      refine ya_ifne 24 (by decide) dX12_leap_18 (fun c => ?_) (fun c => ?_)
      · replace h := ya_itef h c
        refine ya_aload_n 0 rfl dX12_leap_24 ?_
        refine ya_iload_n 1 rfl dX12_leap_25 ?_
        refine ya_iload_n 2 rfl dX12_leap_26 ?_
        obtain ⟨x27, e27, h⟩ := ya_ob h
        refine ya_callVi (S := []) (c_X12_priceOf hG e27) m_X12_priceOf ⟨rfl, rfl⟩ ml_X12_263 rfl ⟨Nat.le_of_ble_eq_true rfl, Nat.le_of_ble_eq_true rfl⟩ (Nat.le_of_ble_eq_true rfl) (hG.lt0 83 (by decide)) (hG.o0 83 rfl) (by decide) rfl rfl ⟨Nat.le_refl _, Nat.le_refl _⟩ dX12_leap_27 rfl ?_
        refine ya_istore [(4, .int x27), (0, .ref (X.2.1 + 83)), (1, .int v1), (2, .int v2), (3, .int v3)] (by decide) rfl dX12_leap_30 ?_
        refine ya_aload_n 1 rfl dX12_leap_32 ?_
        refine ya_iload_n 2 rfl dX12_leap_33 ?_
        refine ya_iload_n 3 rfl dX12_leap_34 ?_
        refine ya_iconst 1 (by decide) dX12_leap_35 ?_
        refine ya_iadd dX12_leap_36 ?_
        refine ya_aload_n 1 rfl dX12_leap_37 ?_
        refine ya_getR fo_X12_9 (hG.o0 83 rfl) (hG.lt0 83 (by decide)) (hG.l0 82 rfl) dX12_leap_38 ?_
        refine ya_iconst 0 (by decide) dX12_leap_41 ?_
        refine ya_iald (hG.s0 84 rfl) (hG.lt0 84 (by decide)) dX12_leap_42 h (fun x42 h => ?_)
        refine ya_iremb dX12_leap_43 h (fun x43 h => ?_)
        obtain ⟨x44, e44, h⟩ := ya_ob h
        refine ya_callVi (S := []) (c_X12_priceOf hG e44) m_X12_priceOf ⟨rfl, rfl⟩ ml_X12_263 rfl ⟨Nat.le_of_ble_eq_true rfl, Nat.le_of_ble_eq_true rfl⟩ (Nat.le_of_ble_eq_true rfl) (hG.lt0 83 (by decide)) (hG.o0 83 rfl) (by decide) rfl rfl ⟨Nat.le_refl _, Nat.le_refl _⟩ dX12_leap_44 rfl ?_
        refine ya_istore [(5, .int x44), (4, .int x27), (0, .ref (X.2.1 + 83)), (1, .int v1), (2, .int v2), (3, .int v3)] (by decide) rfl dX12_leap_47 ?_
        refine ya_iload_n 5 rfl dX12_leap_49 ?_
        refine ya_ifne 58 (by decide) dX12_leap_50 (fun c => ?_) (fun c => ?_)
        · replace h := ya_itef h c
          refine ya_iload_n 5 rfl dX12_leap_58 ?_
          refine ya_iconst 1 (by decide) dX12_leap_59 ?_
          refine ya_icmp_ne 68 (by decide) dX12_leap_60 (fun c => ?_) (fun c => ?_)
          · replace h := ya_itef h c
            refine ya_iload 1 rfl dX12_leap_68 ?_
            refine ya_iload 0 rfl dX12_leap_70 ?_
            refine ya_iadd dX12_leap_72 ?_
            refine ya_iconst 2 (by decide) dX12_leap_73 ?_
            refine ya_idiv (by decide) dX12_leap_74 ?_
            cases h
            exact ya_iret rfl rfl rfl rfl rfl (Nat.le_refl _) dX12_leap_75
          · replace h := ya_itet h c
            refine ya_iload 0 rfl dX12_leap_63 ?_
            refine ya_goto 75 (by decide) dX12_leap_65 ?_
            cases h
            exact ya_iret rfl rfl rfl rfl rfl (Nat.le_refl _) dX12_leap_75
        · replace h := ya_itet h c
          refine ya_iload 1 rfl dX12_leap_53 ?_
          refine ya_goto 75 (by decide) dX12_leap_55 ?_
          cases h
          exact ya_iret rfl rfl rfl rfl rfl (Nat.le_refl _) dX12_leap_75
      · replace h := ya_itet h c
        refine ya_sub [] [] rfl ?_
        exact hk21  h
