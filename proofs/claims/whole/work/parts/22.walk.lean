set_option maxRecDepth 20000 in
theorem c_X11_market {X : ya_X} {G : ya_G} {d : ya_D} {rr : (Int32 × ya_D)} (hG : ya_Bk ya_sh ya_ln G 0) (h : f_X11_market d = some rr) : ya_Ct X yX11_market Y_X11_market [.ref (X.2.1 + 0)] G d (some (.int rr.1), G, rr.2) := by
  refine ya_ct (by decide +kernel) rfl rfl (Nat.le_of_ble_eq_true rfl) ?_
  unfold f_X11_market at h
  show ya_E X Y_X11_market (ya_M X (some (.int rr.1), G, rr.2) 0 0) 0 [(0, .ref (X.2.1 + 0))] [] G d 0 0
  refine ya_aload_n 0 rfl dX11_market_0 ?_
  refine ya_getR fo_X11_19 (hG.o0 0 rfl) (hG.lt0 0 (by decide)) (hG.l0 22 rfl) dX11_market_1 ?_
  refine ya_aload_n 0 rfl dX11_market_4 ?_
  refine ya_getR fo_X11_10 (hG.o0 0 rfl) (hG.lt0 0 (by decide)) (hG.l0 1 rfl) dX11_market_5 ?_
  obtain ⟨x8, d8, e8, h⟩ := ya_ob2 h
  refine ya_callVi (S := []) (c_X3_readAll hG e8) m_X3_readAll ⟨rfl, rfl⟩ ml_X11_76 rfl ⟨Nat.le_of_ble_eq_true rfl, Nat.le_of_ble_eq_true rfl⟩ (Nat.le_of_ble_eq_true rfl) (hG.lt0 3 (by decide)) (hG.o0 3 rfl) (by decide) rfl rfl ⟨Nat.le_refl _, Nat.le_refl _⟩ dX11_market_8 rfl ?_
  refine ya_istore_n [(1, .int x8), (0, .ref (X.2.1 + 0))] (by decide) rfl dX11_market_11 ?_
  refine ya_aload_n 1 rfl dX11_market_12 ?_
  refine ya_getR fo_X11_10 (hG.o0 0 rfl) (hG.lt0 0 (by decide)) (hG.l0 1 rfl) dX11_market_13 ?_
  refine ya_iconst 0 (by decide) dX11_market_16 ?_
  refine ya_putIb fo_X11_68 (hG.o0 1 rfl) (hG.lt0 1 (by decide)) .int pf_X7_1 rfl rfl dX11_market_17 h (fun d17 h => ?_)
  refine ya_iload_n 0 rfl dX11_market_20 ?_
  refine ya_ifne 27 (by decide) dX11_market_21 (fun c => ?_) (fun c => ?_)
  · replace h := ya_itef h c
    refine ya_aload_n 1 rfl dX11_market_27 ?_
    refine ya_getR fo_X11_26 (hG.o0 0 rfl) (hG.lt0 0 (by decide)) (hG.l0 40 rfl) dX11_market_28 ?_
    refine ya_aload_n 1 rfl dX11_market_31 ?_
    refine ya_getR fo_X11_19 (hG.o0 0 rfl) (hG.lt0 0 (by decide)) (hG.l0 22 rfl) dX11_market_32 ?_
    refine ya_getR fo_X11_80 (hG.o0 3 rfl) (hG.lt0 3 (by decide)) (hG.l0 19 rfl) dX11_market_35 ?_
    obtain ⟨d38, e38, h⟩ := ya_ob h
    refine ya_callVv (S := []) (c_X2_take hG (bk_0_24 hG) (bk_0_4 hG) e38) m_X2_take ⟨rfl, rfl⟩ ml_X11_83 rfl ⟨Nat.le_of_ble_eq_true rfl, Nat.le_of_ble_eq_true rfl⟩ (Nat.le_of_ble_eq_true rfl) (hG.lt0 24 (by decide)) (hG.o0 24 rfl) (by decide) rfl rfl ⟨Nat.le_refl _, Nat.le_refl _⟩ dX11_market_38 rfl ?_
    refine ya_aload_n 1 rfl dX11_market_41 ?_
    refine ya_iconst 0 (by decide) dX11_market_42 ?_
    refine ya_putIb fo_X11_64 (hG.o0 0 rfl) (hG.lt0 0 (by decide)) .boolean pf_X11_9 (by decide) rfl dX11_market_43 h (fun d43 h => ?_)
    refine ya_aload_n 1 rfl dX11_market_46 ?_
    refine ya_getR fo_X11_26 (hG.o0 0 rfl) (hG.lt0 0 (by decide)) (hG.l0 40 rfl) dX11_market_47 ?_
    refine ya_getI fo_X11_87 (hG.o0 24 rfl) (hG.lt0 24 (by decide)) dX11_market_50 ?_
    cases h
    exact ya_iret rfl rfl rfl rfl rfl (Nat.le_refl _) dX11_market_53
  · replace h := ya_itet h c
    refine ya_bipush (-4) (by decide) dX11_market_24 ?_
    cases h
    exact ya_iret rfl rfl rfl rfl rfl (Nat.le_refl _) dX11_market_26
set_option maxRecDepth 20000 in
theorem c_X11_fault {X : ya_X} {G : ya_G} {v1 : Int32} {d : ya_D} {rr : Int32} (hG : ya_Bk ya_sh ya_ln G 0) (h : f_X11_fault v1 d = some rr) : ya_Ct X yX11_fault Y_X11_fault [.ref (X.2.1 + 0), .int v1] G d (some (.int rr), G, d) := by
  refine ya_ct (by decide +kernel) rfl rfl (Nat.le_of_ble_eq_true rfl) ?_
  unfold f_X11_fault at h
  show ya_E X Y_X11_fault (ya_M X (some (.int rr), G, d) 0 0) 0 [(0, .ref (X.2.1 + 0)), (1, .int v1)] [] G d 0 0
  refine ya_iload_n 1 rfl dX11_fault_0 ?_
  rcases ya_ite h with ⟨c1_0, h⟩ | ⟨n1_0, h⟩
  · refine ya_lsw 28 (by decide) (by first | (rw [c1_0]; done) | (rw [c1_0]; rfl)) (by decide) dX11_fault_1 ?_
    refine ya_aload_n 0 rfl dX11_fault_28 ?_
    refine ya_getR fo_X11_19 (hG.o0 0 rfl) (hG.lt0 0 (by decide)) (hG.l0 22 rfl) dX11_fault_29 ?_
    refine ya_getI fo_X11_90 (hG.o0 3 rfl) (hG.lt0 3 (by decide)) dX11_fault_32 ?_
    cases h
    exact ya_iret rfl rfl rfl rfl rfl (Nat.le_refl _) dX11_fault_35
  · rcases ya_ite h with ⟨c1_1, h⟩ | ⟨n1_1, h⟩
    · refine ya_lsw 36 (by decide) (by first | (rw [c1_1]; done) | (rw [c1_1]; rfl)) (by decide) dX11_fault_1 ?_
      refine ya_aload_n 0 rfl dX11_fault_36 ?_
      refine ya_getR fo_X11_19 (hG.o0 0 rfl) (hG.lt0 0 (by decide)) (hG.l0 22 rfl) dX11_fault_37 ?_
      refine ya_getI fo_X11_93 (hG.o0 3 rfl) (hG.lt0 3 (by decide)) dX11_fault_40 ?_
      cases h
      exact ya_iret rfl rfl rfl rfl rfl (Nat.le_refl _) dX11_fault_43
    · refine ya_lsw 44 (by decide) (ya_lsOut _ (List.forall_mem_cons.mpr ⟨fun ee => n1_0 (Int32.toInt_inj.mp (ee.trans (by decide))), (List.forall_mem_cons.mpr ⟨fun ee => n1_1 (Int32.toInt_inj.mp (ee.trans (by decide))), (fun _ hq => absurd hq List.not_mem_nil)⟩)⟩)) (by decide) dX11_fault_1 ?_
      refine ya_iconst (-1) (by decide) dX11_fault_44 ?_
      cases h
      exact ya_iret rfl rfl rfl rfl rfl (Nat.le_refl _) dX11_fault_45
set_option maxRecDepth 20000 in
theorem c_X11_isThing {X : ya_X} {G : ya_G} {v1 : Int32} {d : ya_D} {rr : Int32} (hG : ya_Bk ya_sh ya_ln G 0) (h : f_X11_isThing v1 d = some rr) : ya_Ct X yX11_isThing Y_X11_isThing [.ref (X.2.1 + 0), .int v1] G d (some (.int rr), G, d) := by
  refine ya_ct (by decide +kernel) rfl rfl (Nat.le_of_ble_eq_true rfl) ?_
  unfold f_X11_isThing at h
  show ya_E X Y_X11_isThing (ya_M X (some (.int rr), G, d) 0 0) 0 [(0, .ref (X.2.1 + 0)), (1, .int v1)] [] G d 0 0
  refine ya_iload_n 1 rfl dX11_isThing_0 ?_
  refine ya_j0_s h (ya_E X Y_X11_isThing (ya_M X (some (.int rr), G, d) 0 0) 22 [] [] G d 0 0) (fun h => ?_) (fun k22 hk22 h => ?_)
  · refine ya_iconst 0 (by decide) dX11_isThing_22 ?_
    cases h
    exact ya_zret .boolean rfl rfl rfl rfl (by decide) rfl (Nat.le_refl _) dX11_isThing_23
  · refine ya_iflt 22 (by decide) dX11_isThing_1 (fun c => ?_) (fun c => ?_)
    · replace h := ya_itet h c
      refine ya_sub [] [] rfl ?_
      exact hk22  h
    · replace h := ya_itef h c
      refine ya_iload_n 1 rfl dX11_isThing_4 ?_
      refine ya_aload_n 0 rfl dX11_isThing_5 ?_
      refine ya_getR fo_X11_26 (hG.o0 0 rfl) (hG.lt0 0 (by decide)) (hG.l0 40 rfl) dX11_isThing_6 ?_
      refine ya_getR fo_X11_100 (hG.o0 24 rfl) (hG.lt0 24 (by decide)) (hG.l0 27 rfl) dX11_isThing_9 ?_
      refine ya_getI fo_X11_342 (hG.o0 25 rfl) (hG.lt0 25 (by decide)) dX11_isThing_12 ?_
      refine ya_icmp_ge 22 (by decide) dX11_isThing_15 (fun c => ?_) (fun c => ?_)
      · replace h := ya_itet h c
        refine ya_sub [] [] rfl ?_
        exact hk22  h
      · replace h := ya_itef h c
        refine ya_iconst 1 (by decide) dX11_isThing_18 ?_
        refine ya_goto 23 (by decide) dX11_isThing_19 ?_
        cases h
        exact ya_zret .boolean rfl rfl rfl rfl (by decide) rfl (Nat.le_refl _) dX11_isThing_23
set_option maxRecDepth 20000 in
theorem c_X11_isDay {X : ya_X} {G : ya_G} {v1 : Int32} {d : ya_D} {rr : Int32} (hG : ya_Bk ya_sh ya_ln G 0) (h : f_X11_isDay v1 d = some rr) : ya_Ct X yX11_isDay Y_X11_isDay [.ref (X.2.1 + 0), .int v1] G d (some (.int rr), G, d) := by
  refine ya_ct (by decide +kernel) rfl rfl (Nat.le_of_ble_eq_true rfl) ?_
  unfold f_X11_isDay at h
  show ya_E X Y_X11_isDay (ya_M X (some (.int rr), G, d) 0 0) 0 [(0, .ref (X.2.1 + 0)), (1, .int v1)] [] G d 0 0
  refine ya_iload_n 1 rfl dX11_isDay_0 ?_
  refine ya_j0_s h (ya_E X Y_X11_isDay (ya_M X (some (.int rr), G, d) 0 0) 19 [] [] G d 0 0) (fun h => ?_) (fun k19 hk19 h => ?_)
  · refine ya_iconst 0 (by decide) dX11_isDay_19 ?_
    cases h
    exact ya_zret .boolean rfl rfl rfl rfl (by decide) rfl (Nat.le_refl _) dX11_isDay_20
  · refine ya_iflt 19 (by decide) dX11_isDay_1 (fun c => ?_) (fun c => ?_)
    · replace h := ya_itet h c
      refine ya_sub [] [] rfl ?_
      exact hk19  h
    · replace h := ya_itef h c
      refine ya_iload_n 1 rfl dX11_isDay_4 ?_
      refine ya_aload_n 0 rfl dX11_isDay_5 ?_
      refine ya_getR fo_X11_26 (hG.o0 0 rfl) (hG.lt0 0 (by decide)) (hG.l0 40 rfl) dX11_isDay_6 ?_
      refine ya_getI fo_X11_192 (hG.o0 24 rfl) (hG.lt0 24 (by decide)) dX11_isDay_9 ?_
      refine ya_icmp_ge 19 (by decide) dX11_isDay_12 (fun c => ?_) (fun c => ?_)
      · replace h := ya_itet h c
        refine ya_sub [] [] rfl ?_
        exact hk19  h
      · replace h := ya_itef h c
        refine ya_iconst 1 (by decide) dX11_isDay_15 ?_
        refine ya_goto 20 (by decide) dX11_isDay_16 ?_
        cases h
        exact ya_zret .boolean rfl rfl rfl rfl (by decide) rfl (Nat.le_refl _) dX11_isDay_20
set_option maxRecDepth 20000 in
theorem c_X11_isThingDay {X : ya_X} {G : ya_G} {v1 : Int32} {v2 : Int32} {d : ya_D} {rr : Int32} (hG : ya_Bk ya_sh ya_ln G 0) (h : f_X11_isThingDay v1 v2 d = some rr) : ya_Ct X yX11_isThingDay Y_X11_isThingDay [.ref (X.2.1 + 0), .int v1, .int v2] G d (some (.int rr), G, d) := by
  refine ya_ct (by decide +kernel) rfl rfl (Nat.le_of_ble_eq_true rfl) ?_
  unfold f_X11_isThingDay at h
  show ya_E X Y_X11_isThingDay (ya_M X (some (.int rr), G, d) 0 0) 0 [(0, .ref (X.2.1 + 0)), (1, .int v1), (2, .int v2)] [] G d 0 0
  refine ya_aload_n 0 rfl dX11_isThingDay_0 ?_
  refine ya_iload_n 1 rfl dX11_isThingDay_1 ?_
  obtain ⟨x2, e2, h⟩ := ya_ob h
  refine ya_callVi (S := []) (c_X11_isThing hG e2) m_X11_isThing ⟨rfl, rfl⟩ ml_X11_303 rfl ⟨Nat.le_of_ble_eq_true rfl, Nat.le_of_ble_eq_true rfl⟩ (Nat.le_of_ble_eq_true rfl) (hG.lt0 0 (by decide)) (hG.o0 0 rfl) (by decide) rfl rfl ⟨Nat.le_refl _, Nat.le_refl _⟩ dX11_isThingDay_2 rfl ?_
  refine ya_j0_s h (ya_E X Y_X11_isThingDay (ya_M X (some (.int rr), G, d) 0 0) 20 [] [] G d 0 0) (fun h => ?_) (fun k20 hk20 h => ?_)
  · refine ya_iconst 0 (by decide) dX11_isThingDay_20 ?_
    cases h
    exact ya_zret .boolean rfl rfl rfl rfl (by decide) rfl (Nat.le_refl _) dX11_isThingDay_21
  · refine ya_ifeq 20 (by decide) dX11_isThingDay_5 (fun c => ?_) (fun c => ?_)
    · replace h := ya_itet h c
      refine ya_sub [] [] rfl ?_
      exact hk20  h
    · replace h := ya_itef h c
      refine ya_aload_n 0 rfl dX11_isThingDay_8 ?_
      refine ya_iload_n 2 rfl dX11_isThingDay_9 ?_
      obtain ⟨x10, e10, h⟩ := ya_ob h
      refine ya_callVi (S := []) (c_X11_isDay hG e10) m_X11_isDay ⟨rfl, rfl⟩ ml_X11_150 rfl ⟨Nat.le_of_ble_eq_true rfl, Nat.le_of_ble_eq_true rfl⟩ (Nat.le_of_ble_eq_true rfl) (hG.lt0 0 (by decide)) (hG.o0 0 rfl) (by decide) rfl rfl ⟨Nat.le_refl _, Nat.le_refl _⟩ dX11_isThingDay_10 rfl ?_
      refine ya_ifeq 20 (by decide) dX11_isThingDay_13 (fun c => ?_) (fun c => ?_)
      · replace h := ya_itet h c
        refine ya_sub [] [] rfl ?_
        exact hk20  h
      · replace h := ya_itef h c
        refine ya_iconst 1 (by decide) dX11_isThingDay_16 ?_
        refine ya_goto 21 (by decide) dX11_isThingDay_17 ?_
        cases h
        exact ya_zret .boolean rfl rfl rfl rfl (by decide) rfl (Nat.le_refl _) dX11_isThingDay_21
set_option maxRecDepth 20000 in
theorem c_X11_price {X : ya_X} {G : ya_G} {v1 : Int32} {v2 : Int32} {d : ya_D} {rr : Int32} (hG : ya_Bk ya_sh ya_ln G 0) (h : f_X11_price v1 v2 d = some rr) : ya_Ct X yX11_price Y_X11_price [.ref (X.2.1 + 0), .int v1, .int v2] G d (some (.int rr), G, d) := by
  refine ya_ct (by decide +kernel) rfl rfl (Nat.le_of_ble_eq_true rfl) ?_
  unfold f_X11_price at h
  show ya_E X Y_X11_price (ya_M X (some (.int rr), G, d) 0 0) 0 [(0, .ref (X.2.1 + 0)), (1, .int v1), (2, .int v2)] [] G d 0 0
  refine ya_aload_n 0 rfl dX11_price_0 ?_
  refine ya_iload_n 1 rfl dX11_price_1 ?_
  refine ya_iload_n 2 rfl dX11_price_2 ?_
  obtain ⟨x3, e3, h⟩ := ya_ob h
  refine ya_callVi (S := []) (c_X11_isThingDay hG e3) m_X11_isThingDay ⟨rfl, rfl⟩ ml_X11_96 rfl ⟨Nat.le_of_ble_eq_true rfl, Nat.le_of_ble_eq_true rfl⟩ (Nat.le_of_ble_eq_true rfl) (hG.lt0 0 (by decide)) (hG.o0 0 rfl) (by decide) rfl rfl ⟨Nat.le_refl _, Nat.le_refl _⟩ dX11_price_3 rfl ?_
  refine ya_ifeq 28 (by decide) dX11_price_6 (fun c => ?_) (fun c => ?_)
  · replace h := ya_itet h c
    refine ya_bipush (-2) (by decide) dX11_price_28 ?_
    cases h
    exact ya_iret rfl rfl rfl rfl rfl (Nat.le_refl _) dX11_price_30
  · replace h := ya_itef h c
    refine ya_aload_n 0 rfl dX11_price_9 ?_
    refine ya_getR fo_X11_26 (hG.o0 0 rfl) (hG.lt0 0 (by decide)) (hG.l0 40 rfl) dX11_price_10 ?_
    refine ya_getR fo_X11_100 (hG.o0 24 rfl) (hG.lt0 24 (by decide)) (hG.l0 27 rfl) dX11_price_13 ?_
    refine ya_getR fo_X11_104 (hG.o0 25 rfl) (hG.lt0 25 (by decide)) (hG.l0 24 rfl) dX11_price_16 ?_
    refine ya_iload_n 1 rfl dX11_price_19 ?_
    refine ya_iload_n 2 rfl dX11_price_20 ?_
    obtain ⟨x21, e21, h⟩ := ya_ob h
    refine ya_callSi (S := [.ref (X.2.1 + 27)]) (c_X11_cell hG e21) m_X11_cell ⟨rfl, rfl⟩ ml_X11_110 rfl ⟨Nat.le_of_ble_eq_true rfl, Nat.le_of_ble_eq_true rfl⟩ (Nat.le_of_ble_eq_true rfl) ⟨Nat.le_refl _, Nat.le_refl _⟩ dX11_price_21 rfl ?_
    refine ya_iald (hG.s0 27 rfl) (hG.lt0 27 (by decide)) dX11_price_24 h (fun x24 h => ?_)
    refine ya_goto 30 (by decide) dX11_price_25 ?_
    cases h
    exact ya_iret rfl rfl rfl rfl rfl (Nat.le_refl _) dX11_price_30
set_option maxRecDepth 20000 in
theorem c_X11_old {X : ya_X} {G : ya_G} {v1 : Int32} {v2 : Int32} {d : ya_D} {rr : Int32} (hG : ya_Bk ya_sh ya_ln G 0) (h : f_X11_old v1 v2 d = some rr) : ya_Ct X yX11_old Y_X11_old [.ref (X.2.1 + 0), .int v1, .int v2] G d (some (.int rr), G, d) := by
  refine ya_ct (by decide +kernel) rfl rfl (Nat.le_of_ble_eq_true rfl) ?_
  unfold f_X11_old at h
  show ya_E X Y_X11_old (ya_M X (some (.int rr), G, d) 0 0) 0 [(0, .ref (X.2.1 + 0)), (1, .int v1), (2, .int v2)] [] G d 0 0
  refine ya_aload_n 0 rfl dX11_old_0 ?_
  refine ya_iload_n 1 rfl dX11_old_1 ?_
  refine ya_iload_n 2 rfl dX11_old_2 ?_
  obtain ⟨x3, e3, h⟩ := ya_ob h
  refine ya_callVi (S := []) (c_X11_isThingDay hG e3) m_X11_isThingDay ⟨rfl, rfl⟩ ml_X11_96 rfl ⟨Nat.le_of_ble_eq_true rfl, Nat.le_of_ble_eq_true rfl⟩ (Nat.le_of_ble_eq_true rfl) (hG.lt0 0 (by decide)) (hG.o0 0 rfl) (by decide) rfl rfl ⟨Nat.le_refl _, Nat.le_refl _⟩ dX11_old_3 rfl ?_
  refine ya_ifeq 28 (by decide) dX11_old_6 (fun c => ?_) (fun c => ?_)
  · replace h := ya_itet h c
    refine ya_bipush (-2) (by decide) dX11_old_28 ?_
    cases h
    exact ya_iret rfl rfl rfl rfl rfl (Nat.le_refl _) dX11_old_30
  · replace h := ya_itef h c
    refine ya_aload_n 0 rfl dX11_old_9 ?_
    refine ya_getR fo_X11_26 (hG.o0 0 rfl) (hG.lt0 0 (by decide)) (hG.l0 40 rfl) dX11_old_10 ?_
    refine ya_getR fo_X11_100 (hG.o0 24 rfl) (hG.lt0 24 (by decide)) (hG.l0 27 rfl) dX11_old_13 ?_
    refine ya_getR fo_X11_114 (hG.o0 25 rfl) (hG.lt0 25 (by decide)) (hG.l0 25 rfl) dX11_old_16 ?_
    refine ya_iload_n 1 rfl dX11_old_19 ?_
    refine ya_iload_n 2 rfl dX11_old_20 ?_
    obtain ⟨x21, e21, h⟩ := ya_ob h
    refine ya_callSi (S := [.ref (X.2.1 + 28)]) (c_X11_cell hG e21) m_X11_cell ⟨rfl, rfl⟩ ml_X11_110 rfl ⟨Nat.le_of_ble_eq_true rfl, Nat.le_of_ble_eq_true rfl⟩ (Nat.le_of_ble_eq_true rfl) ⟨Nat.le_refl _, Nat.le_refl _⟩ dX11_old_21 rfl ?_
    refine ya_iald (hG.s0 28 rfl) (hG.lt0 28 (by decide)) dX11_old_24 h (fun x24 h => ?_)
    refine ya_goto 30 (by decide) dX11_old_25 ?_
    cases h
    exact ya_iret rfl rfl rfl rfl rfl (Nat.le_refl _) dX11_old_30
set_option maxRecDepth 20000 in
theorem c_X11_thisYear {X : ya_X} {G : ya_G} {d : ya_D} {rr : ya_D} (hG : ya_Bk ya_sh ya_ln G 0) (h : f_X11_thisYear d = some rr) : ya_Ct X yX11_thisYear Y_X11_thisYear [.ref (X.2.1 + 0)] G d (some (.ref (X.2.1 + 42)), G, rr) := by
  refine ya_ct (by decide +kernel) rfl rfl (Nat.le_of_ble_eq_true rfl) ?_
  unfold f_X11_thisYear at h
  show ya_E X Y_X11_thisYear (ya_M X (some (.ref (X.2.1 + 42)), G, rr) 0 0) 0 [(0, .ref (X.2.1 + 0))] [] G d 0 0
  refine ya_aload_n 0 rfl dX11_thisYear_0 ?_
  refine ya_getI fo_X11_64 (hG.o0 0 rfl) (hG.lt0 0 (by decide)) dX11_thisYear_1 ?_
  refine ya_j1_s h (fun d_24 => ya_E X Y_X11_thisYear (ya_M X (some (.ref (X.2.1 + 42)), G, rr) 0 0) 24 [(0, .ref (X.2.1 + 0))] [] G d_24 0 0) (fun d_24 h => ?_) (fun k24 hk24 h => ?_)
  · refine ya_aload_n 0 rfl dX11_thisYear_24 ?_
    refine ya_getR fo_X11_33 (hG.o0 0 rfl) (hG.lt0 0 (by decide)) (hG.l0 55 rfl) dX11_thisYear_25 ?_
    cases h
    exact ya_aret (rt := .object "YearAgo$Year") (Or.inl ⟨_, rfl⟩) rfl rfl rfl rfl rfl (Nat.le_refl _) dX11_thisYear_28
  · refine ya_ifne 24 (by decide) dX11_thisYear_4 (fun c => ?_) (fun c => ?_)
    · replace h := ya_itef h c
      exact hk24 _ h
    · replace h := ya_itet h c
      refine ya_aload_n 0 rfl dX11_thisYear_7 ?_
      refine ya_getR fo_X11_33 (hG.o0 0 rfl) (hG.lt0 0 (by decide)) (hG.l0 55 rfl) dX11_thisYear_8 ?_
      refine ya_aload_n 0 rfl dX11_thisYear_11 ?_
      refine ya_getR fo_X11_26 (hG.o0 0 rfl) (hG.lt0 0 (by decide)) (hG.l0 40 rfl) dX11_thisYear_12 ?_
      refine ya_iconst 1 (by decide) dX11_thisYear_15 ?_
      obtain ⟨d16, e16, h⟩ := ya_ob h
      refine ya_callVv (S := []) (c_X10_run hG (bk_0_42 hG) (bk_0_24 hG) e16) m_X10_run ⟨rfl, rfl⟩ ml_X11_244 rfl ⟨Nat.le_of_ble_eq_true rfl, Nat.le_of_ble_eq_true rfl⟩ (Nat.le_of_ble_eq_true rfl) (hG.lt0 42 (by decide)) (hG.o0 42 rfl) (by decide) rfl rfl ⟨Nat.le_refl _, Nat.le_refl _⟩ dX11_thisYear_16 rfl ?_
      refine ya_aload_n 0 rfl dX11_thisYear_19 ?_
      refine ya_iconst 1 (by decide) dX11_thisYear_20 ?_
      refine ya_putIb fo_X11_64 (hG.o0 0 rfl) (hG.lt0 0 (by decide)) .boolean pf_X11_9 (by decide) rfl dX11_thisYear_21 h (fun d21 h => ?_)
      exact hk24 _ h
set_option maxRecDepth 20000 in
theorem c_X11_offered {X : ya_X} {G : ya_G} {v1 : Int32} {v2 : Int32} {d : ya_D} {rr : (Int32 × ya_D)} (hG : ya_Bk ya_sh ya_ln G 0) (h : f_X11_offered v1 v2 d = some rr) : ya_Ct X yX11_offered Y_X11_offered [.ref (X.2.1 + 0), .int v1, .int v2] G d (some (.int rr.1), G, rr.2) := by
  refine ya_ct (by decide +kernel) rfl rfl (Nat.le_of_ble_eq_true rfl) ?_
  unfold f_X11_offered at h
  show ya_E X Y_X11_offered (ya_M X (some (.int rr.1), G, rr.2) 0 0) 0 [(0, .ref (X.2.1 + 0)), (1, .int v1), (2, .int v2)] [] G d 0 0
  refine ya_aload_n 0 rfl dX11_offered_0 ?_
  refine ya_iload_n 1 rfl dX11_offered_1 ?_
  refine ya_iload_n 2 rfl dX11_offered_2 ?_
  obtain ⟨x3, e3, h⟩ := ya_ob h
  refine ya_callVi (S := []) (c_X11_isThingDay hG e3) m_X11_isThingDay ⟨rfl, rfl⟩ ml_X11_96 rfl ⟨Nat.le_of_ble_eq_true rfl, Nat.le_of_ble_eq_true rfl⟩ (Nat.le_of_ble_eq_true rfl) (hG.lt0 0 (by decide)) (hG.o0 0 rfl) (by decide) rfl rfl ⟨Nat.le_refl _, Nat.le_refl _⟩ dX11_offered_3 rfl ?_
  refine ya_ifeq 25 (by decide) dX11_offered_6 (fun c => ?_) (fun c => ?_)
  · replace h := ya_itet h c
    refine ya_bipush (-2) (by decide) dX11_offered_25 ?_
    cases h
    exact ya_iret rfl rfl rfl rfl rfl (Nat.le_refl _) dX11_offered_27
  · replace h := ya_itef h c
    refine ya_aload_n 0 rfl dX11_offered_9 ?_
    obtain ⟨d10, e10, h⟩ := ya_ob h
    refine ya_callVa (S := []) (c_X11_thisYear hG e10) m_X11_thisYear ⟨rfl, rfl⟩ ml_X11_117 rfl ⟨Nat.le_of_ble_eq_true rfl, Nat.le_of_ble_eq_true rfl⟩ (Nat.le_of_ble_eq_true rfl) (hG.lt0 0 (by decide)) (hG.o0 0 rfl) (by decide) rfl rfl ⟨Nat.le_refl _, Nat.le_refl _⟩ dX11_offered_10 rfl ?_
    refine ya_getR fo_X11_121 (hG.o0 42 rfl) (hG.lt0 42 (by decide)) (hG.l0 41 rfl) dX11_offered_13 ?_
    refine ya_iload_n 1 rfl dX11_offered_16 ?_
    refine ya_iload_n 2 rfl dX11_offered_17 ?_
    obtain ⟨x18, e18, h⟩ := ya_ob h
    refine ya_callSi (S := [.ref (X.2.1 + 43)]) (c_X11_cell hG e18) m_X11_cell ⟨rfl, rfl⟩ ml_X11_110 rfl ⟨Nat.le_of_ble_eq_true rfl, Nat.le_of_ble_eq_true rfl⟩ (Nat.le_of_ble_eq_true rfl) ⟨Nat.le_refl _, Nat.le_refl _⟩ dX11_offered_18 rfl ?_
    refine ya_iald (hG.s0 43 rfl) (hG.lt0 43 (by decide)) dX11_offered_21 h (fun x21 h => ?_)
    refine ya_goto 27 (by decide) dX11_offered_22 ?_
    cases h
    exact ya_iret rfl rfl rfl rfl rfl (Nat.le_refl _) dX11_offered_27
set_option maxRecDepth 20000 in
theorem c_X11_asked {X : ya_X} {G : ya_G} {v1 : Int32} {v2 : Int32} {d : ya_D} {rr : (Int32 × ya_D)} (hG : ya_Bk ya_sh ya_ln G 0) (h : f_X11_asked v1 v2 d = some rr) : ya_Ct X yX11_asked Y_X11_asked [.ref (X.2.1 + 0), .int v1, .int v2] G d (some (.int rr.1), G, rr.2) := by
  refine ya_ct (by decide +kernel) rfl rfl (Nat.le_of_ble_eq_true rfl) ?_
  unfold f_X11_asked at h
  show ya_E X Y_X11_asked (ya_M X (some (.int rr.1), G, rr.2) 0 0) 0 [(0, .ref (X.2.1 + 0)), (1, .int v1), (2, .int v2)] [] G d 0 0
  refine ya_aload_n 0 rfl dX11_asked_0 ?_
  refine ya_iload_n 1 rfl dX11_asked_1 ?_
  refine ya_iload_n 2 rfl dX11_asked_2 ?_
  obtain ⟨x3, e3, h⟩ := ya_ob h
  refine ya_callVi (S := []) (c_X11_isThingDay hG e3) m_X11_isThingDay ⟨rfl, rfl⟩ ml_X11_96 rfl ⟨Nat.le_of_ble_eq_true rfl, Nat.le_of_ble_eq_true rfl⟩ (Nat.le_of_ble_eq_true rfl) (hG.lt0 0 (by decide)) (hG.o0 0 rfl) (by decide) rfl rfl ⟨Nat.le_refl _, Nat.le_refl _⟩ dX11_asked_3 rfl ?_
  refine ya_ifeq 25 (by decide) dX11_asked_6 (fun c => ?_) (fun c => ?_)
  · replace h := ya_itet h c
    refine ya_bipush (-2) (by decide) dX11_asked_25 ?_
    cases h
    exact ya_iret rfl rfl rfl rfl rfl (Nat.le_refl _) dX11_asked_27
  · replace h := ya_itef h c
    refine ya_aload_n 0 rfl dX11_asked_9 ?_
    obtain ⟨d10, e10, h⟩ := ya_ob h
    refine ya_callVa (S := []) (c_X11_thisYear hG e10) m_X11_thisYear ⟨rfl, rfl⟩ ml_X11_117 rfl ⟨Nat.le_of_ble_eq_true rfl, Nat.le_of_ble_eq_true rfl⟩ (Nat.le_of_ble_eq_true rfl) (hG.lt0 0 (by decide)) (hG.o0 0 rfl) (by decide) rfl rfl ⟨Nat.le_refl _, Nat.le_refl _⟩ dX11_asked_10 rfl ?_
    refine ya_getR fo_X11_124 (hG.o0 42 rfl) (hG.lt0 42 (by decide)) (hG.l0 42 rfl) dX11_asked_13 ?_
    refine ya_iload_n 1 rfl dX11_asked_16 ?_
    refine ya_iload_n 2 rfl dX11_asked_17 ?_
    obtain ⟨x18, e18, h⟩ := ya_ob h
    refine ya_callSi (S := [.ref (X.2.1 + 44)]) (c_X11_cell hG e18) m_X11_cell ⟨rfl, rfl⟩ ml_X11_110 rfl ⟨Nat.le_of_ble_eq_true rfl, Nat.le_of_ble_eq_true rfl⟩ (Nat.le_of_ble_eq_true rfl) ⟨Nat.le_refl _, Nat.le_refl _⟩ dX11_asked_18 rfl ?_
    refine ya_iald (hG.s0 44 rfl) (hG.lt0 44 (by decide)) dX11_asked_21 h (fun x21 h => ?_)
    refine ya_goto 27 (by decide) dX11_asked_22 ?_
    cases h
    exact ya_iret rfl rfl rfl rfl rfl (Nat.le_refl _) dX11_asked_27
set_option maxRecDepth 20000 in
theorem c_X11_sold {X : ya_X} {G : ya_G} {v1 : Int32} {v2 : Int32} {d : ya_D} {rr : (Int32 × ya_D)} (hG : ya_Bk ya_sh ya_ln G 0) (h : f_X11_sold v1 v2 d = some rr) : ya_Ct X yX11_sold Y_X11_sold [.ref (X.2.1 + 0), .int v1, .int v2] G d (some (.int rr.1), G, rr.2) := by
  refine ya_ct (by decide +kernel) rfl rfl (Nat.le_of_ble_eq_true rfl) ?_
  unfold f_X11_sold at h
  show ya_E X Y_X11_sold (ya_M X (some (.int rr.1), G, rr.2) 0 0) 0 [(0, .ref (X.2.1 + 0)), (1, .int v1), (2, .int v2)] [] G d 0 0
  refine ya_aload_n 0 rfl dX11_sold_0 ?_
  refine ya_iload_n 1 rfl dX11_sold_1 ?_
  refine ya_iload_n 2 rfl dX11_sold_2 ?_
  obtain ⟨x3, e3, h⟩ := ya_ob h
  refine ya_callVi (S := []) (c_X11_isThingDay hG e3) m_X11_isThingDay ⟨rfl, rfl⟩ ml_X11_96 rfl ⟨Nat.le_of_ble_eq_true rfl, Nat.le_of_ble_eq_true rfl⟩ (Nat.le_of_ble_eq_true rfl) (hG.lt0 0 (by decide)) (hG.o0 0 rfl) (by decide) rfl rfl ⟨Nat.le_refl _, Nat.le_refl _⟩ dX11_sold_3 rfl ?_
  refine ya_ifeq 25 (by decide) dX11_sold_6 (fun c => ?_) (fun c => ?_)
  · replace h := ya_itet h c
    refine ya_bipush (-2) (by decide) dX11_sold_25 ?_
    cases h
    exact ya_iret rfl rfl rfl rfl rfl (Nat.le_refl _) dX11_sold_27
  · replace h := ya_itef h c
    refine ya_aload_n 0 rfl dX11_sold_9 ?_
    obtain ⟨d10, e10, h⟩ := ya_ob h
    refine ya_callVa (S := []) (c_X11_thisYear hG e10) m_X11_thisYear ⟨rfl, rfl⟩ ml_X11_117 rfl ⟨Nat.le_of_ble_eq_true rfl, Nat.le_of_ble_eq_true rfl⟩ (Nat.le_of_ble_eq_true rfl) (hG.lt0 0 (by decide)) (hG.o0 0 rfl) (by decide) rfl rfl ⟨Nat.le_refl _, Nat.le_refl _⟩ dX11_sold_10 rfl ?_
    refine ya_getR fo_X11_127 (hG.o0 42 rfl) (hG.lt0 42 (by decide)) (hG.l0 43 rfl) dX11_sold_13 ?_
    refine ya_iload_n 1 rfl dX11_sold_16 ?_
    refine ya_iload_n 2 rfl dX11_sold_17 ?_
    obtain ⟨x18, e18, h⟩ := ya_ob h
    refine ya_callSi (S := [.ref (X.2.1 + 45)]) (c_X11_cell hG e18) m_X11_cell ⟨rfl, rfl⟩ ml_X11_110 rfl ⟨Nat.le_of_ble_eq_true rfl, Nat.le_of_ble_eq_true rfl⟩ (Nat.le_of_ble_eq_true rfl) ⟨Nat.le_refl _, Nat.le_refl _⟩ dX11_sold_18 rfl ?_
    refine ya_iald (hG.s0 45 rfl) (hG.lt0 45 (by decide)) dX11_sold_21 h (fun x21 h => ?_)
    refine ya_goto 27 (by decide) dX11_sold_22 ?_
    cases h
    exact ya_iret rfl rfl rfl rfl rfl (Nat.le_refl _) dX11_sold_27
set_option maxRecDepth 20000 in
theorem c_X11_isSeller {X : ya_X} {G : ya_G} {v1 : Int32} {d : ya_D} {rr : Int32} (hG : ya_Bk ya_sh ya_ln G 0) (h : f_X11_isSeller v1 d = some rr) : ya_Ct X yX11_isSeller Y_X11_isSeller [.ref (X.2.1 + 0), .int v1] G d (some (.int rr), G, d) := by
  refine ya_ct (by decide +kernel) rfl rfl (Nat.le_of_ble_eq_true rfl) ?_
  unfold f_X11_isSeller at h
  show ya_E X Y_X11_isSeller (ya_M X (some (.int rr), G, d) 0 0) 0 [(0, .ref (X.2.1 + 0)), (1, .int v1)] [] G d 0 0
  refine ya_iload_n 1 rfl dX11_isSeller_0 ?_
  refine ya_j0_s h (ya_E X Y_X11_isSeller (ya_M X (some (.int rr), G, d) 0 0) 22 [] [] G d 0 0) (fun h => ?_) (fun k22 hk22 h => ?_)
  · refine ya_iconst 0 (by decide) dX11_isSeller_22 ?_
    cases h
    exact ya_zret .boolean rfl rfl rfl rfl (by decide) rfl (Nat.le_refl _) dX11_isSeller_23
  · refine ya_iflt 22 (by decide) dX11_isSeller_1 (fun c => ?_) (fun c => ?_)
    · replace h := ya_itet h c
      refine ya_sub [] [] rfl ?_
      exact hk22  h
    · replace h := ya_itef h c
      refine ya_iload_n 1 rfl dX11_isSeller_4 ?_
      refine ya_aload_n 0 rfl dX11_isSeller_5 ?_
      refine ya_getR fo_X11_26 (hG.o0 0 rfl) (hG.lt0 0 (by decide)) (hG.l0 40 rfl) dX11_isSeller_6 ?_
      refine ya_getR fo_X11_181 (hG.o0 24 rfl) (hG.lt0 24 (by decide)) (hG.l0 32 rfl) dX11_isSeller_9 ?_
      refine ya_getI fo_X11_185 (hG.o0 30 rfl) (hG.lt0 30 (by decide)) dX11_isSeller_12 ?_
      refine ya_icmp_ge 22 (by decide) dX11_isSeller_15 (fun c => ?_) (fun c => ?_)
      · replace h := ya_itet h c
        refine ya_sub [] [] rfl ?_
        exact hk22  h
      · replace h := ya_itef h c
        refine ya_iconst 1 (by decide) dX11_isSeller_18 ?_
        refine ya_goto 23 (by decide) dX11_isSeller_19 ?_
        cases h
        exact ya_zret .boolean rfl rfl rfl rfl (by decide) rfl (Nat.le_refl _) dX11_isSeller_23
set_option maxRecDepth 20000 in
theorem c_X11_seller {X : ya_X} {G : ya_G} {v1 : Int32} {v2 : Int32} {d : ya_D} {rr : (Int32 × ya_D)} (hG : ya_Bk ya_sh ya_ln G 0) (h : f_X11_seller v1 v2 d = some rr) : ya_Ct X yX11_seller Y_X11_seller [.ref (X.2.1 + 0), .int v1, .int v2] G d (some (.int rr.1), G, rr.2) := by
  refine ya_ct (by decide +kernel) rfl rfl (Nat.le_of_ble_eq_true rfl) ?_
  unfold f_X11_seller at h
  show ya_E X Y_X11_seller (ya_M X (some (.int rr.1), G, rr.2) 0 0) 0 [(0, .ref (X.2.1 + 0)), (1, .int v1), (2, .int v2)] [] G d 0 0
  refine ya_aload_n 0 rfl dX11_seller_0 ?_
  refine ya_iload_n 1 rfl dX11_seller_1 ?_
  obtain ⟨x2, e2, h⟩ := ya_ob h
  refine ya_callVi (S := []) (c_X11_isSeller hG e2) m_X11_isSeller ⟨rfl, rfl⟩ ml_X11_130 rfl ⟨Nat.le_of_ble_eq_true rfl, Nat.le_of_ble_eq_true rfl⟩ (Nat.le_of_ble_eq_true rfl) (hG.lt0 0 (by decide)) (hG.o0 0 rfl) (by decide) rfl rfl ⟨Nat.le_refl _, Nat.le_refl _⟩ dX11_seller_2 rfl ?_
  refine ya_ifne 11 (by decide) dX11_seller_5 (fun c => ?_) (fun c => ?_)
  · replace h := ya_itef h c
    refine ya_aload_n 0 rfl dX11_seller_11 ?_
    obtain ⟨d12, e12, h⟩ := ya_ob h
    refine ya_callVa (S := []) (c_X11_thisYear hG e12) m_X11_thisYear ⟨rfl, rfl⟩ ml_X11_117 rfl ⟨Nat.le_of_ble_eq_true rfl, Nat.le_of_ble_eq_true rfl⟩ (Nat.le_of_ble_eq_true rfl) (hG.lt0 0 (by decide)) (hG.o0 0 rfl) (by decide) rfl rfl ⟨Nat.le_refl _, Nat.le_refl _⟩ dX11_seller_12 rfl ?_
    refine ya_astore_n [(3, .ref (X.2.1 + 42)), (0, .ref (X.2.1 + 0)), (1, .int v1), (2, .int v2)] (by decide) rfl dX11_seller_15 ?_
    refine ya_iload_n 3 rfl dX11_seller_16 ?_
    rcases ya_ite h with ⟨c17_0, h⟩ | ⟨n17_0, h⟩
    · refine ya_tswIn 0 52 c17_0 (by decide) (by decide) rfl (by decide) dX11_seller_17 ?_
      refine ya_aload_n 0 rfl dX11_seller_52 ?_
      refine ya_getR fo_X11_134 (hG.o0 42 rfl) (hG.lt0 42 (by decide)) (hG.l0 49 rfl) dX11_seller_53 ?_
      refine ya_iload_n 2 rfl dX11_seller_56 ?_
      refine ya_iald (hG.s0 51 rfl) (hG.lt0 51 (by decide)) dX11_seller_57 h (fun x57 h => ?_)
      cases h
      exact ya_iret rfl rfl rfl rfl rfl (Nat.le_refl _) dX11_seller_58
    · rcases ya_ite h with ⟨c17_1, h⟩ | ⟨n17_1, h⟩
      · refine ya_tswIn 1 59 c17_1 (by decide) (by decide) rfl (by decide) dX11_seller_17 ?_
        refine ya_aload_n 0 rfl dX11_seller_59 ?_
        refine ya_getR fo_X11_137 (hG.o0 42 rfl) (hG.lt0 42 (by decide)) (hG.l0 50 rfl) dX11_seller_60 ?_
        refine ya_iload_n 2 rfl dX11_seller_63 ?_
        refine ya_iald (hG.s0 52 rfl) (hG.lt0 52 (by decide)) dX11_seller_64 h (fun x64 h => ?_)
        cases h
        exact ya_iret rfl rfl rfl rfl rfl (Nat.le_refl _) dX11_seller_65
      · rcases ya_ite h with ⟨c17_2, h⟩ | ⟨n17_2, h⟩
        · refine ya_tswIn 2 66 c17_2 (by decide) (by decide) rfl (by decide) dX11_seller_17 ?_
          refine ya_aload_n 0 rfl dX11_seller_66 ?_
          refine ya_getR fo_X11_140 (hG.o0 42 rfl) (hG.lt0 42 (by decide)) (hG.l0 51 rfl) dX11_seller_67 ?_
          refine ya_iload_n 2 rfl dX11_seller_70 ?_
          refine ya_iald (hG.s0 53 rfl) (hG.lt0 53 (by decide)) dX11_seller_71 h (fun x71 h => ?_)
          cases h
          exact ya_iret rfl rfl rfl rfl rfl (Nat.le_refl _) dX11_seller_72
        · rcases ya_ite h with ⟨c17_3, h⟩ | ⟨n17_3, h⟩
          · refine ya_tswIn 3 73 c17_3 (by decide) (by decide) rfl (by decide) dX11_seller_17 ?_
            refine ya_aload_n 0 rfl dX11_seller_73 ?_
            refine ya_getR fo_X11_143 (hG.o0 42 rfl) (hG.lt0 42 (by decide)) (hG.l0 48 rfl) dX11_seller_74 ?_
            refine ya_iload_n 2 rfl dX11_seller_77 ?_
            refine ya_iald (hG.s0 50 rfl) (hG.lt0 50 (by decide)) dX11_seller_78 h (fun x78 h => ?_)
            cases h
            exact ya_iret rfl rfl rfl rfl rfl (Nat.le_refl _) dX11_seller_79
          · rcases ya_ite h with ⟨c17_4, h⟩ | ⟨n17_4, h⟩
            · refine ya_tswIn 4 80 c17_4 (by decide) (by decide) rfl (by decide) dX11_seller_17 ?_
              refine ya_aload_n 0 rfl dX11_seller_80 ?_
              refine ya_getR fo_X11_134 (hG.o0 42 rfl) (hG.lt0 42 (by decide)) (hG.l0 49 rfl) dX11_seller_81 ?_
              refine ya_iload_n 2 rfl dX11_seller_84 ?_
              refine ya_iald (hG.s0 51 rfl) (hG.lt0 51 (by decide)) dX11_seller_85 h (fun x85 h => ?_)
              refine ya_ifne 93 (by decide) dX11_seller_86 (fun c => ?_) (fun c => ?_)
              · replace h := ya_itef h c
                refine ya_aload_n 0 rfl dX11_seller_93 ?_
                refine ya_iconst 1 (by decide) dX11_seller_94 ?_
                refine ya_iload_n 2 rfl dX11_seller_95 ?_
                refine ya_ishl dX11_seller_96 ?_
                obtain ⟨x97, e97, h⟩ := ya_ob h
                refine ya_callVi (S := []) (c_X10_richestDay hG (bk_0_42 hG) e97) m_X10_richestDay ⟨rfl, rfl⟩ ml_X11_146 rfl ⟨Nat.le_of_ble_eq_true rfl, Nat.le_of_ble_eq_true rfl⟩ (Nat.le_of_ble_eq_true rfl) (hG.lt0 42 (by decide)) (hG.o0 42 rfl) (by decide) rfl rfl ⟨Nat.le_refl _, Nat.le_refl _⟩ dX11_seller_97 rfl ?_
                cases h
                exact ya_iret rfl rfl rfl rfl rfl (Nat.le_refl _) dX11_seller_100
              · replace h := ya_itet h c
                refine ya_iconst (-1) (by decide) dX11_seller_89 ?_
                refine ya_goto 100 (by decide) dX11_seller_90 ?_
                cases h
                exact ya_iret rfl rfl rfl rfl rfl (Nat.le_refl _) dX11_seller_100
            · refine ya_tswOut 101 (ya_out [0, 1, 2, 3, 4] (List.forall_mem_cons.mpr ⟨n17_0, (List.forall_mem_cons.mpr ⟨n17_1, (List.forall_mem_cons.mpr ⟨n17_2, (List.forall_mem_cons.mpr ⟨n17_3, (List.forall_mem_cons.mpr ⟨n17_4, (fun _ hq => absurd hq List.not_mem_nil)⟩)⟩)⟩)⟩)⟩) (by decide)) (by decide) dX11_seller_17 ?_
              refine ya_bipush (-2) (by decide) dX11_seller_101 ?_
              cases h
              exact ya_iret rfl rfl rfl rfl rfl (Nat.le_refl _) dX11_seller_103
  · replace h := ya_itet h c
    refine ya_bipush (-2) (by decide) dX11_seller_8 ?_
    cases h
    exact ya_iret rfl rfl rfl rfl rfl (Nat.le_refl _) dX11_seller_10
set_option maxRecDepth 20000 in
theorem c_X11_gets {X : ya_X} {G : ya_G} {v1 : Int32} {v2 : Int32} {d : ya_D} {rr : (Int32 × ya_D)} (hG : ya_Bk ya_sh ya_ln G 0) (h : f_X11_gets v1 v2 d = some rr) : ya_Ct X yX11_gets Y_X11_gets [.ref (X.2.1 + 0), .int v1, .int v2] G d (some (.int rr.1), G, rr.2) := by
  refine ya_ct (by decide +kernel) rfl rfl (Nat.le_of_ble_eq_true rfl) ?_
  unfold f_X11_gets at h
  show ya_E X Y_X11_gets (ya_M X (some (.int rr.1), G, rr.2) 0 0) 0 [(0, .ref (X.2.1 + 0)), (1, .int v1), (2, .int v2)] [] G d 0 0
  refine ya_aload_n 0 rfl dX11_gets_0 ?_
  refine ya_iload_n 1 rfl dX11_gets_1 ?_
  obtain ⟨x2, e2, h⟩ := ya_ob h
  refine ya_callVi (S := []) (c_X11_isSeller hG e2) m_X11_isSeller ⟨rfl, rfl⟩ ml_X11_130 rfl ⟨Nat.le_of_ble_eq_true rfl, Nat.le_of_ble_eq_true rfl⟩ (Nat.le_of_ble_eq_true rfl) (hG.lt0 0 (by decide)) (hG.o0 0 rfl) (by decide) rfl rfl ⟨Nat.le_refl _, Nat.le_refl _⟩ dX11_gets_2 rfl ?_
  refine ya_j0_s h (ya_E X Y_X11_gets (ya_M X (some (.int rr.1), G, rr.2) 0 0) 32 [] [] G d 0 0) (fun h => ?_) (fun k32 hk32 h => ?_)
  · refine ya_bipush (-2) (by decide) dX11_gets_32 ?_
    cases h
    exact ya_iret rfl rfl rfl rfl rfl (Nat.le_refl _) dX11_gets_34
  · refine ya_ifeq 32 (by decide) dX11_gets_5 (fun c => ?_) (fun c => ?_)
    · replace h := ya_itet h c
      refine ya_sub [] [] rfl ?_
      exact hk32  h
    · replace h := ya_itef h c
      refine ya_aload_n 0 rfl dX11_gets_8 ?_
      refine ya_iload_n 2 rfl dX11_gets_9 ?_
      obtain ⟨x10, e10, h⟩ := ya_ob h
      refine ya_callVi (S := []) (c_X11_isDay hG e10) m_X11_isDay ⟨rfl, rfl⟩ ml_X11_150 rfl ⟨Nat.le_of_ble_eq_true rfl, Nat.le_of_ble_eq_true rfl⟩ (Nat.le_of_ble_eq_true rfl) (hG.lt0 0 (by decide)) (hG.o0 0 rfl) (by decide) rfl rfl ⟨Nat.le_refl _, Nat.le_refl _⟩ dX11_gets_10 rfl ?_
      refine ya_ifeq 32 (by decide) dX11_gets_13 (fun c => ?_) (fun c => ?_)
      · replace h := ya_itet h c
        refine ya_sub [] [] rfl ?_
        exact hk32  h
      · replace h := ya_itef h c
        refine ya_aload_n 0 rfl dX11_gets_16 ?_
        obtain ⟨d17, e17, h⟩ := ya_ob h
        refine ya_callVa (S := []) (c_X11_thisYear hG e17) m_X11_thisYear ⟨rfl, rfl⟩ ml_X11_117 rfl ⟨Nat.le_of_ble_eq_true rfl, Nat.le_of_ble_eq_true rfl⟩ (Nat.le_of_ble_eq_true rfl) (hG.lt0 0 (by decide)) (hG.o0 0 rfl) (by decide) rfl rfl ⟨Nat.le_refl _, Nat.le_refl _⟩ dX11_gets_17 rfl ?_
        refine ya_getR fo_X11_153 (hG.o0 42 rfl) (hG.lt0 42 (by decide)) (hG.l0 45 rfl) dX11_gets_20 ?_
        refine ya_iload_n 1 rfl dX11_gets_23 ?_
        refine ya_iload_n 2 rfl dX11_gets_24 ?_
        obtain ⟨x25, e25, h⟩ := ya_ob h
        refine ya_callSi (S := [.ref (X.2.1 + 47)]) (c_X11_cell hG e25) m_X11_cell ⟨rfl, rfl⟩ ml_X11_110 rfl ⟨Nat.le_of_ble_eq_true rfl, Nat.le_of_ble_eq_true rfl⟩ (Nat.le_of_ble_eq_true rfl) ⟨Nat.le_refl _, Nat.le_refl _⟩ dX11_gets_25 rfl ?_
        refine ya_iald (hG.s0 47 rfl) (hG.lt0 47 (by decide)) dX11_gets_28 h (fun x28 h => ?_)
        refine ya_goto 34 (by decide) dX11_gets_29 ?_
        cases h
        exact ya_iret rfl rfl rfl rfl rfl (Nat.le_refl _) dX11_gets_34
set_option maxRecDepth 20000 in
theorem c_X11_stock {X : ya_X} {G : ya_G} {v1 : Int32} {v2 : Int32} {d : ya_D} {rr : (Int32 × ya_D)} (hG : ya_Bk ya_sh ya_ln G 0) (h : f_X11_stock v1 v2 d = some rr) : ya_Ct X yX11_stock Y_X11_stock [.ref (X.2.1 + 0), .int v1, .int v2] G d (some (.int rr.1), G, rr.2) := by
  refine ya_ct (by decide +kernel) rfl rfl (Nat.le_of_ble_eq_true rfl) ?_
  unfold f_X11_stock at h
  show ya_E X Y_X11_stock (ya_M X (some (.int rr.1), G, rr.2) 0 0) 0 [(0, .ref (X.2.1 + 0)), (1, .int v1), (2, .int v2)] [] G d 0 0
  refine ya_aload_n 0 rfl dX11_stock_0 ?_
  refine ya_iload_n 1 rfl dX11_stock_1 ?_
  obtain ⟨x2, e2, h⟩ := ya_ob h
  refine ya_callVi (S := []) (c_X11_isSeller hG e2) m_X11_isSeller ⟨rfl, rfl⟩ ml_X11_130 rfl ⟨Nat.le_of_ble_eq_true rfl, Nat.le_of_ble_eq_true rfl⟩ (Nat.le_of_ble_eq_true rfl) (hG.lt0 0 (by decide)) (hG.o0 0 rfl) (by decide) rfl rfl ⟨Nat.le_refl _, Nat.le_refl _⟩ dX11_stock_2 rfl ?_
  refine ya_j0_s h (ya_E X Y_X11_stock (ya_M X (some (.int rr.1), G, rr.2) 0 0) 32 [] [] G d 0 0) (fun h => ?_) (fun k32 hk32 h => ?_)
  · refine ya_bipush (-2) (by decide) dX11_stock_32 ?_
    cases h
    exact ya_iret rfl rfl rfl rfl rfl (Nat.le_refl _) dX11_stock_34
  · refine ya_ifeq 32 (by decide) dX11_stock_5 (fun c => ?_) (fun c => ?_)
    · replace h := ya_itet h c
      refine ya_sub [] [] rfl ?_
      exact hk32  h
    · replace h := ya_itef h c
      refine ya_aload_n 0 rfl dX11_stock_8 ?_
      refine ya_iload_n 2 rfl dX11_stock_9 ?_
      obtain ⟨x10, e10, h⟩ := ya_ob h
      refine ya_callVi (S := []) (c_X11_isDay hG e10) m_X11_isDay ⟨rfl, rfl⟩ ml_X11_150 rfl ⟨Nat.le_of_ble_eq_true rfl, Nat.le_of_ble_eq_true rfl⟩ (Nat.le_of_ble_eq_true rfl) (hG.lt0 0 (by decide)) (hG.o0 0 rfl) (by decide) rfl rfl ⟨Nat.le_refl _, Nat.le_refl _⟩ dX11_stock_10 rfl ?_
      refine ya_ifeq 32 (by decide) dX11_stock_13 (fun c => ?_) (fun c => ?_)
      · replace h := ya_itet h c
        refine ya_sub [] [] rfl ?_
        exact hk32  h
      · replace h := ya_itef h c
        refine ya_aload_n 0 rfl dX11_stock_16 ?_
        obtain ⟨d17, e17, h⟩ := ya_ob h
        refine ya_callVa (S := []) (c_X11_thisYear hG e17) m_X11_thisYear ⟨rfl, rfl⟩ ml_X11_117 rfl ⟨Nat.le_of_ble_eq_true rfl, Nat.le_of_ble_eq_true rfl⟩ (Nat.le_of_ble_eq_true rfl) (hG.lt0 0 (by decide)) (hG.o0 0 rfl) (by decide) rfl rfl ⟨Nat.le_refl _, Nat.le_refl _⟩ dX11_stock_17 rfl ?_
        refine ya_getR fo_X11_156 (hG.o0 42 rfl) (hG.lt0 42 (by decide)) (hG.l0 46 rfl) dX11_stock_20 ?_
        refine ya_iload_n 1 rfl dX11_stock_23 ?_
        refine ya_iload_n 2 rfl dX11_stock_24 ?_
        obtain ⟨x25, e25, h⟩ := ya_ob h
        refine ya_callSi (S := [.ref (X.2.1 + 48)]) (c_X11_cell hG e25) m_X11_cell ⟨rfl, rfl⟩ ml_X11_110 rfl ⟨Nat.le_of_ble_eq_true rfl, Nat.le_of_ble_eq_true rfl⟩ (Nat.le_of_ble_eq_true rfl) ⟨Nat.le_refl _, Nat.le_refl _⟩ dX11_stock_25 rfl ?_
        refine ya_iald (hG.s0 48 rfl) (hG.lt0 48 (by decide)) dX11_stock_28 h (fun x28 h => ?_)
        refine ya_goto 34 (by decide) dX11_stock_29 ?_
        cases h
        exact ya_iret rfl rfl rfl rfl rfl (Nat.le_refl _) dX11_stock_34
set_option maxRecDepth 20000 in
theorem c_X11_isBuyer {X : ya_X} {G : ya_G} {v1 : Int32} {d : ya_D} {rr : Int32} (hG : ya_Bk ya_sh ya_ln G 0) (h : f_X11_isBuyer v1 d = some rr) : ya_Ct X yX11_isBuyer Y_X11_isBuyer [.ref (X.2.1 + 0), .int v1] G d (some (.int rr), G, d) := by
  refine ya_ct (by decide +kernel) rfl rfl (Nat.le_of_ble_eq_true rfl) ?_
  unfold f_X11_isBuyer at h
  show ya_E X Y_X11_isBuyer (ya_M X (some (.int rr), G, d) 0 0) 0 [(0, .ref (X.2.1 + 0)), (1, .int v1)] [] G d 0 0
  refine ya_iload_n 1 rfl dX11_isBuyer_0 ?_
  refine ya_j0_s h (ya_E X Y_X11_isBuyer (ya_M X (some (.int rr), G, d) 0 0) 22 [] [] G d 0 0) (fun h => ?_) (fun k22 hk22 h => ?_)
  · refine ya_iconst 0 (by decide) dX11_isBuyer_22 ?_
    cases h
    exact ya_zret .boolean rfl rfl rfl rfl (by decide) rfl (Nat.le_refl _) dX11_isBuyer_23
  · refine ya_iflt 22 (by decide) dX11_isBuyer_1 (fun c => ?_) (fun c => ?_)
    · replace h := ya_itet h c
      refine ya_sub [] [] rfl ?_
      exact hk22  h
    · replace h := ya_itef h c
      refine ya_iload_n 1 rfl dX11_isBuyer_4 ?_
      refine ya_aload_n 0 rfl dX11_isBuyer_5 ?_
      refine ya_getR fo_X11_26 (hG.o0 0 rfl) (hG.lt0 0 (by decide)) (hG.l0 40 rfl) dX11_isBuyer_6 ?_
      refine ya_getR fo_X11_168 (hG.o0 24 rfl) (hG.lt0 24 (by decide)) (hG.l0 39 rfl) dX11_isBuyer_9 ?_
      refine ya_getI fo_X11_343 (hG.o0 35 rfl) (hG.lt0 35 (by decide)) dX11_isBuyer_12 ?_
      refine ya_icmp_ge 22 (by decide) dX11_isBuyer_15 (fun c => ?_) (fun c => ?_)
      · replace h := ya_itet h c
        refine ya_sub [] [] rfl ?_
        exact hk22  h
      · replace h := ya_itef h c
        refine ya_iconst 1 (by decide) dX11_isBuyer_18 ?_
        refine ya_goto 23 (by decide) dX11_isBuyer_19 ?_
        cases h
        exact ya_zret .boolean rfl rfl rfl rfl (by decide) rfl (Nat.le_refl _) dX11_isBuyer_23
set_option maxRecDepth 20000 in
theorem c_X11_buyer {X : ya_X} {G : ya_G} {v1 : Int32} {v2 : Int32} {d : ya_D} {rr : (Int32 × ya_D)} (hG : ya_Bk ya_sh ya_ln G 0) (h : f_X11_buyer v1 v2 d = some rr) : ya_Ct X yX11_buyer Y_X11_buyer [.ref (X.2.1 + 0), .int v1, .int v2] G d (some (.int rr.1), G, rr.2) := by
  refine ya_ct (by decide +kernel) rfl rfl (Nat.le_of_ble_eq_true rfl) ?_
  unfold f_X11_buyer at h
  show ya_E X Y_X11_buyer (ya_M X (some (.int rr.1), G, rr.2) 0 0) 0 [(0, .ref (X.2.1 + 0)), (1, .int v1), (2, .int v2)] [] G d 0 0
  refine ya_aload_n 0 rfl dX11_buyer_0 ?_
  refine ya_iload_n 1 rfl dX11_buyer_1 ?_
  obtain ⟨x2, e2, h⟩ := ya_ob h
  refine ya_callVi (S := []) (c_X11_isBuyer hG e2) m_X11_isBuyer ⟨rfl, rfl⟩ ml_X11_159 rfl ⟨Nat.le_of_ble_eq_true rfl, Nat.le_of_ble_eq_true rfl⟩ (Nat.le_of_ble_eq_true rfl) (hG.lt0 0 (by decide)) (hG.o0 0 rfl) (by decide) rfl rfl ⟨Nat.le_refl _, Nat.le_refl _⟩ dX11_buyer_2 rfl ?_
  refine ya_ifne 11 (by decide) dX11_buyer_5 (fun c => ?_) (fun c => ?_)
  · replace h := ya_itef h c
    refine ya_aload_n 0 rfl dX11_buyer_11 ?_
    obtain ⟨d12, e12, h⟩ := ya_ob h
    refine ya_callVa (S := []) (c_X11_thisYear hG e12) m_X11_thisYear ⟨rfl, rfl⟩ ml_X11_117 rfl ⟨Nat.le_of_ble_eq_true rfl, Nat.le_of_ble_eq_true rfl⟩ (Nat.le_of_ble_eq_true rfl) (hG.lt0 0 (by decide)) (hG.o0 0 rfl) (by decide) rfl rfl ⟨Nat.le_refl _, Nat.le_refl _⟩ dX11_buyer_12 rfl ?_
    refine ya_astore_n [(3, .ref (X.2.1 + 42)), (0, .ref (X.2.1 + 0)), (1, .int v1), (2, .int v2)] (by decide) rfl dX11_buyer_15 ?_
    refine ya_iload_n 3 rfl dX11_buyer_16 ?_
    rcases ya_ite h with ⟨c17_0, h⟩ | ⟨n17_0, h⟩
    · refine ya_tswIn 0 44 c17_0 (by decide) (by decide) rfl (by decide) dX11_buyer_17 ?_
      refine ya_aload_n 0 rfl dX11_buyer_44 ?_
      refine ya_getR fo_X11_162 (hG.o0 42 rfl) (hG.lt0 42 (by decide)) (hG.l0 52 rfl) dX11_buyer_45 ?_
      refine ya_iload_n 2 rfl dX11_buyer_48 ?_
      refine ya_iald (hG.s0 54 rfl) (hG.lt0 54 (by decide)) dX11_buyer_49 h (fun x49 h => ?_)
      cases h
      exact ya_iret rfl rfl rfl rfl rfl (Nat.le_refl _) dX11_buyer_50
    · rcases ya_ite h with ⟨c17_1, h⟩ | ⟨n17_1, h⟩
      · refine ya_tswIn 1 51 c17_1 (by decide) (by decide) rfl (by decide) dX11_buyer_17 ?_
        refine ya_aload_n 0 rfl dX11_buyer_51 ?_
        refine ya_getR fo_X11_165 (hG.o0 42 rfl) (hG.lt0 42 (by decide)) (hG.l0 53 rfl) dX11_buyer_52 ?_
        refine ya_iload_n 2 rfl dX11_buyer_55 ?_
        refine ya_iald (hG.s0 55 rfl) (hG.lt0 55 (by decide)) dX11_buyer_56 h (fun x56 h => ?_)
        cases h
        exact ya_iret rfl rfl rfl rfl rfl (Nat.le_refl _) dX11_buyer_57
      · rcases ya_ite h with ⟨c17_2, h⟩ | ⟨n17_2, h⟩
        · refine ya_tswIn 2 58 c17_2 (by decide) (by decide) rfl (by decide) dX11_buyer_17 ?_
          refine ya_aload_n 1 rfl dX11_buyer_58 ?_
          refine ya_getR fo_X11_26 (hG.o0 0 rfl) (hG.lt0 0 (by decide)) (hG.l0 40 rfl) dX11_buyer_59 ?_
          refine ya_getR fo_X11_168 (hG.o0 24 rfl) (hG.lt0 24 (by decide)) (hG.l0 39 rfl) dX11_buyer_62 ?_
          refine ya_iload_n 2 rfl dX11_buyer_65 ?_
          obtain ⟨x66, e66, h⟩ := ya_ob h
          refine ya_callVi (S := []) (c_X1_wantsInAll hG (bk_0_35 hG) e66) m_X1_wantsInAll ⟨rfl, rfl⟩ ml_X11_172 rfl ⟨Nat.le_of_ble_eq_true rfl, Nat.le_of_ble_eq_true rfl⟩ (Nat.le_of_ble_eq_true rfl) (hG.lt0 35 (by decide)) (hG.o0 35 rfl) (by decide) rfl rfl ⟨Nat.le_refl _, Nat.le_refl _⟩ dX11_buyer_66 rfl ?_
          refine ya_aload_n 0 rfl dX11_buyer_69 ?_
          refine ya_getR fo_X11_165 (hG.o0 42 rfl) (hG.lt0 42 (by decide)) (hG.l0 53 rfl) dX11_buyer_70 ?_
          refine ya_iload_n 2 rfl dX11_buyer_73 ?_
          refine ya_iald (hG.s0 55 rfl) (hG.lt0 55 (by decide)) dX11_buyer_74 h (fun x74 h => ?_)
          refine ya_isub dX11_buyer_75 ?_
          cases h
          exact ya_iret rfl rfl rfl rfl rfl (Nat.le_refl _) dX11_buyer_76
        · refine ya_tswOut 77 (ya_out [0, 1, 2] (List.forall_mem_cons.mpr ⟨n17_0, (List.forall_mem_cons.mpr ⟨n17_1, (List.forall_mem_cons.mpr ⟨n17_2, (fun _ hq => absurd hq List.not_mem_nil)⟩)⟩)⟩) (by decide)) (by decide) dX11_buyer_17 ?_
          refine ya_bipush (-2) (by decide) dX11_buyer_77 ?_
          cases h
          exact ya_iret rfl rfl rfl rfl rfl (Nat.le_refl _) dX11_buyer_79
  · replace h := ya_itet h c
    refine ya_bipush (-2) (by decide) dX11_buyer_8 ?_
    cases h
    exact ya_iret rfl rfl rfl rfl rfl (Nat.le_refl _) dX11_buyer_10
set_option maxRecDepth 20000 in
theorem c_X11_isMarket {X : ya_X} {G : ya_G} {d : ya_D} {rr : Int32} (hG : ya_Bk ya_sh ya_ln G 0) (h : f_X11_isMarket d = some rr) : ya_Ct X yX11_isMarket Y_X11_isMarket [.ref (X.2.1 + 0)] G d (some (.int rr), G, d) := by
  refine ya_ct (by decide +kernel) rfl rfl (Nat.le_of_ble_eq_true rfl) ?_
  unfold f_X11_isMarket at h
  show ya_E X Y_X11_isMarket (ya_M X (some (.int rr), G, d) 0 0) 0 [(0, .ref (X.2.1 + 0))] [] G d 0 0
  refine ya_aload_n 0 rfl dX11_isMarket_0 ?_
  refine ya_getR fo_X11_26 (hG.o0 0 rfl) (hG.lt0 0 (by decide)) (hG.l0 40 rfl) dX11_isMarket_1 ?_
  refine ya_getI fo_X11_87 (hG.o0 24 rfl) (hG.lt0 24 (by decide)) dX11_isMarket_4 ?_
  refine ya_ifle 14 (by decide) dX11_isMarket_7 (fun c => ?_) (fun c => ?_)
  · replace h := ya_itet h c
    refine ya_iconst 0 (by decide) dX11_isMarket_14 ?_
    cases h
    exact ya_zret .boolean rfl rfl rfl rfl (by decide) rfl (Nat.le_refl _) dX11_isMarket_15
  · replace h := ya_itef h c
    refine ya_iconst 1 (by decide) dX11_isMarket_10 ?_
    refine ya_goto 15 (by decide) dX11_isMarket_11 ?_
    cases h
    exact ya_zret .boolean rfl rfl rfl rfl (by decide) rfl (Nat.le_refl _) dX11_isMarket_15
set_option maxRecDepth 20000 in
theorem c_X11_rich {X : ya_X} {G : ya_G} {v1 : Int32} {d : ya_D} {rr : (Int32 × ya_D)} (hG : ya_Bk ya_sh ya_ln G 0) (h : f_X11_rich v1 d = some rr) : ya_Ct X yX11_rich Y_X11_rich [.ref (X.2.1 + 0), .int v1] G d (some (.int rr.1), G, rr.2) := by
  refine ya_ct (by decide +kernel) rfl rfl (Nat.le_of_ble_eq_true rfl) ?_
  unfold f_X11_rich at h
  show ya_E X Y_X11_rich (ya_M X (some (.int rr.1), G, rr.2) 0 0) 0 [(0, .ref (X.2.1 + 0)), (1, .int v1)] [] G d 0 0
  refine ya_aload_n 0 rfl dX11_rich_0 ?_
  obtain ⟨x1, e1, h⟩ := ya_ob h
  refine ya_callVi (S := []) (c_X11_isMarket hG e1) m_X11_isMarket ⟨rfl, rfl⟩ ml_X11_177 rfl ⟨Nat.le_of_ble_eq_true rfl, Nat.le_of_ble_eq_true rfl⟩ (Nat.le_of_ble_eq_true rfl) (hG.lt0 0 (by decide)) (hG.o0 0 rfl) (by decide) rfl rfl ⟨Nat.le_refl _, Nat.le_refl _⟩ dX11_rich_1 rfl ?_
  refine ya_ifne 10 (by decide) dX11_rich_4 (fun c => ?_) (fun c => ?_)
  · replace h := ya_itef h c
    refine ya_aload_n 0 rfl dX11_rich_10 ?_
    obtain ⟨d11, e11, h⟩ := ya_ob h
    refine ya_callVa (S := []) (c_X11_thisYear hG e11) m_X11_thisYear ⟨rfl, rfl⟩ ml_X11_117 rfl ⟨Nat.le_of_ble_eq_true rfl, Nat.le_of_ble_eq_true rfl⟩ (Nat.le_of_ble_eq_true rfl) (hG.lt0 0 (by decide)) (hG.o0 0 rfl) (by decide) rfl rfl ⟨Nat.le_refl _, Nat.le_refl _⟩ dX11_rich_11 rfl ?_
    refine ya_astore_n [(2, .ref (X.2.1 + 42)), (0, .ref (X.2.1 + 0)), (1, .int v1)] (by decide) rfl dX11_rich_14 ?_
    refine ya_iconst 1 (by decide) dX11_rich_15 ?_
    refine ya_aload_n 1 rfl dX11_rich_16 ?_
    refine ya_getR fo_X11_26 (hG.o0 0 rfl) (hG.lt0 0 (by decide)) (hG.l0 40 rfl) dX11_rich_17 ?_
    refine ya_getR fo_X11_181 (hG.o0 24 rfl) (hG.lt0 24 (by decide)) (hG.l0 32 rfl) dX11_rich_20 ?_
    refine ya_getI fo_X11_185 (hG.o0 30 rfl) (hG.lt0 30 (by decide)) dX11_rich_23 ?_
    refine ya_ishl dX11_rich_26 ?_
    refine ya_iconst 1 (by decide) dX11_rich_27 ?_
    refine ya_isub dX11_rich_28 ?_
    refine ya_istore_n [(3, .int (((1 : Int32) <<< ((d11.1 30 0) &&& 31)) - 1)), (2, .ref (X.2.1 + 42)), (0, .ref (X.2.1 + 0)), (1, .int v1)] (by decide) rfl dX11_rich_29 ?_
    refine ya_iload_n 3 rfl dX11_rich_30 ?_
    rcases ya_ite h with ⟨c31_0, h⟩ | ⟨n31_0, h⟩
    · refine ya_tswIn 0 60 c31_0 (by decide) (by decide) rfl (by decide) dX11_rich_31 ?_
      refine ya_aload_n 1 rfl dX11_rich_60 ?_
      refine ya_aload_n 2 rfl dX11_rich_61 ?_
      refine ya_getR fo_X11_26 (hG.o0 0 rfl) (hG.lt0 0 (by decide)) (hG.l0 40 rfl) dX11_rich_62 ?_
      obtain ⟨x65, e65, h⟩ := ya_ob h
      refine ya_callVi (S := []) (c_X10_daysWithoutSale hG (bk_0_42 hG) (bk_0_24 hG) e65) m_X10_daysWithoutSale ⟨rfl, rfl⟩ ml_X11_188 rfl ⟨Nat.le_of_ble_eq_true rfl, Nat.le_of_ble_eq_true rfl⟩ (Nat.le_of_ble_eq_true rfl) (hG.lt0 42 (by decide)) (hG.o0 42 rfl) (by decide) rfl rfl ⟨Nat.le_refl _, Nat.le_refl _⟩ dX11_rich_65 rfl ?_
      refine ya_aload_n 2 rfl dX11_rich_68 ?_
      refine ya_getR fo_X11_26 (hG.o0 0 rfl) (hG.lt0 0 (by decide)) (hG.l0 40 rfl) dX11_rich_69 ?_
      refine ya_getI fo_X11_192 (hG.o0 24 rfl) (hG.lt0 24 (by decide)) dX11_rich_72 ?_
      refine ya_icmp_ne 82 (by decide) dX11_rich_75 (fun c => ?_) (fun c => ?_)
      · replace h := ya_itef h c
        refine ya_aload_n 1 rfl dX11_rich_82 ?_
        refine ya_iload_n 0 rfl dX11_rich_83 ?_
        obtain ⟨x84, e84, h⟩ := ya_ob h
        refine ya_callVi (S := []) (c_X10_richestDay hG (bk_0_42 hG) e84) m_X10_richestDay ⟨rfl, rfl⟩ ml_X11_146 rfl ⟨Nat.le_of_ble_eq_true rfl, Nat.le_of_ble_eq_true rfl⟩ (Nat.le_of_ble_eq_true rfl) (hG.lt0 42 (by decide)) (hG.o0 42 rfl) (by decide) rfl rfl ⟨Nat.le_refl _, Nat.le_refl _⟩ dX11_rich_84 rfl ?_
        cases h
        exact ya_iret rfl rfl rfl rfl rfl (Nat.le_refl _) dX11_rich_87
      · replace h := ya_itet h c
        refine ya_iconst (-1) (by decide) dX11_rich_78 ?_
        refine ya_goto 87 (by decide) dX11_rich_79 ?_
        cases h
        exact ya_iret rfl rfl rfl rfl rfl (Nat.le_refl _) dX11_rich_87
    · rcases ya_ite h with ⟨c31_1, h⟩ | ⟨n31_1, h⟩
      · refine ya_tswIn 1 88 c31_1 (by decide) (by decide) rfl (by decide) dX11_rich_31 ?_
        refine ya_aload_n 1 rfl dX11_rich_88 ?_
        refine ya_iload_n 0 rfl dX11_rich_89 ?_
        refine ya_aload_n 1 rfl dX11_rich_90 ?_
        refine ya_iload_n 0 rfl dX11_rich_91 ?_
        obtain ⟨x92, e92, h⟩ := ya_ob h
        refine ya_callVi (S := [.int (((1 : Int32) <<< ((d11.1 30 0) &&& 31)) - 1), .ref (X.2.1 + 42)]) (c_X10_richestDay hG (bk_0_42 hG) e92) m_X10_richestDay ⟨rfl, rfl⟩ ml_X11_146 rfl ⟨Nat.le_of_ble_eq_true rfl, Nat.le_of_ble_eq_true rfl⟩ (Nat.le_of_ble_eq_true rfl) (hG.lt0 42 (by decide)) (hG.o0 42 rfl) (by decide) rfl rfl ⟨Nat.le_refl _, Nat.le_refl _⟩ dX11_rich_92 rfl ?_
        obtain ⟨x95, e95, h⟩ := ya_ob h
        refine ya_callVi (S := []) (c_X10_takings hG (bk_0_42 hG) e95) m_X10_takings ⟨rfl, rfl⟩ ml_X11_195 rfl ⟨Nat.le_of_ble_eq_true rfl, Nat.le_of_ble_eq_true rfl⟩ (Nat.le_of_ble_eq_true rfl) (hG.lt0 42 (by decide)) (hG.o0 42 rfl) (by decide) rfl rfl ⟨Nat.le_refl _, Nat.le_refl _⟩ dX11_rich_95 rfl ?_
        cases h
        exact ya_iret rfl rfl rfl rfl rfl (Nat.le_refl _) dX11_rich_98
      · rcases ya_ite h with ⟨c31_2, h⟩ | ⟨n31_2, h⟩
        · refine ya_tswIn 2 99 c31_2 (by decide) (by decide) rfl (by decide) dX11_rich_31 ?_
          refine ya_aload_n 1 rfl dX11_rich_99 ?_
          refine ya_aload_n 2 rfl dX11_rich_100 ?_
          refine ya_getR fo_X11_26 (hG.o0 0 rfl) (hG.lt0 0 (by decide)) (hG.l0 40 rfl) dX11_rich_101 ?_
          obtain ⟨x104, e104, h⟩ := ya_ob h
          refine ya_callVi (S := []) (c_X10_daysWithoutSale hG (bk_0_42 hG) (bk_0_24 hG) e104) m_X10_daysWithoutSale ⟨rfl, rfl⟩ ml_X11_188 rfl ⟨Nat.le_of_ble_eq_true rfl, Nat.le_of_ble_eq_true rfl⟩ (Nat.le_of_ble_eq_true rfl) (hG.lt0 42 (by decide)) (hG.o0 42 rfl) (by decide) rfl rfl ⟨Nat.le_refl _, Nat.le_refl _⟩ dX11_rich_104 rfl ?_
          cases h
          exact ya_iret rfl rfl rfl rfl rfl (Nat.le_refl _) dX11_rich_107
        · rcases ya_ite h with ⟨c31_3, h⟩ | ⟨n31_3, h⟩
          · refine ya_tswIn 3 108 c31_3 (by decide) (by decide) rfl (by decide) dX11_rich_31 ?_
            refine ya_aload_n 1 rfl dX11_rich_108 ?_
            refine ya_getI fo_X11_198 (hG.o0 42 rfl) (hG.lt0 42 (by decide)) dX11_rich_109 ?_
            cases h
            exact ya_iret rfl rfl rfl rfl rfl (Nat.le_refl _) dX11_rich_112
          · refine ya_tswOut 113 (ya_out [0, 1, 2, 3] (List.forall_mem_cons.mpr ⟨n31_0, (List.forall_mem_cons.mpr ⟨n31_1, (List.forall_mem_cons.mpr ⟨n31_2, (List.forall_mem_cons.mpr ⟨n31_3, (fun _ hq => absurd hq List.not_mem_nil)⟩)⟩)⟩)⟩) (by decide)) (by decide) dX11_rich_31 ?_
            refine ya_bipush (-2) (by decide) dX11_rich_113 ?_
            cases h
            exact ya_iret rfl rfl rfl rfl rfl (Nat.le_refl _) dX11_rich_115
  · replace h := ya_itet h c
    refine ya_bipush (-2) (by decide) dX11_rich_7 ?_
    cases h
    exact ya_iret rfl rfl rfl rfl rfl (Nat.le_refl _) dX11_rich_9
set_option maxRecDepth 20000 in
theorem c_X11_queue {X : ya_X} {G : ya_G} {v1 : Int32} {v2 : Int32} {d : ya_D} {rr : (Int32 × ya_D)} (hG : ya_Bk ya_sh ya_ln G 0) (h : f_X11_queue v1 v2 d = some rr) : ya_Ct X yX11_queue Y_X11_queue [.ref (X.2.1 + 0), .int v1, .int v2] G d (some (.int rr.1), G, rr.2) := by
  refine ya_ct (by decide +kernel) rfl rfl (Nat.le_of_ble_eq_true rfl) ?_
  unfold f_X11_queue at h
  show ya_E X Y_X11_queue (ya_M X (some (.int rr.1), G, rr.2) 0 0) 0 [(0, .ref (X.2.1 + 0)), (1, .int v1), (2, .int v2)] [] G d 0 0
  refine ya_aload_n 0 rfl dX11_queue_0 ?_
  refine ya_iload_n 1 rfl dX11_queue_1 ?_
  refine ya_iload_n 2 rfl dX11_queue_2 ?_
  obtain ⟨x3, e3, h⟩ := ya_ob h
  refine ya_callVi (S := []) (c_X11_isThingDay hG e3) m_X11_isThingDay ⟨rfl, rfl⟩ ml_X11_96 rfl ⟨Nat.le_of_ble_eq_true rfl, Nat.le_of_ble_eq_true rfl⟩ (Nat.le_of_ble_eq_true rfl) (hG.lt0 0 (by decide)) (hG.o0 0 rfl) (by decide) rfl rfl ⟨Nat.le_refl _, Nat.le_refl _⟩ dX11_queue_3 rfl ?_
  refine ya_ifne 12 (by decide) dX11_queue_6 (fun c => ?_) (fun c => ?_)
  · replace h := ya_itef h c
    refine ya_iload_n 1 rfl dX11_queue_12 ?_
    refine ya_iload_n 2 rfl dX11_queue_13 ?_
    obtain ⟨x14, e14, h⟩ := ya_ob h
    refine ya_callSi (S := []) (c_X11_cell hG e14) m_X11_cell ⟨rfl, rfl⟩ ml_X11_110 rfl ⟨Nat.le_of_ble_eq_true rfl, Nat.le_of_ble_eq_true rfl⟩ (Nat.le_of_ble_eq_true rfl) ⟨Nat.le_refl _, Nat.le_refl _⟩ dX11_queue_14 rfl ?_
    refine ya_istore_n [(3, .int x14), (0, .ref (X.2.1 + 0)), (1, .int v1), (2, .int v2)] (by decide) rfl dX11_queue_17 ?_
    refine ya_iconst 0 (by decide) dX11_queue_18 ?_
    refine ya_aload_n 1 rfl dX11_queue_19 ?_
    obtain ⟨d20, e20, h⟩ := ya_ob h
    refine ya_callVa (S := [.int 0]) (c_X11_thisYear hG e20) m_X11_thisYear ⟨rfl, rfl⟩ ml_X11_117 rfl ⟨Nat.le_of_ble_eq_true rfl, Nat.le_of_ble_eq_true rfl⟩ (Nat.le_of_ble_eq_true rfl) (hG.lt0 0 (by decide)) (hG.o0 0 rfl) (by decide) rfl rfl ⟨Nat.le_refl _, Nat.le_refl _⟩ dX11_queue_20 rfl ?_
    refine ya_getR fo_X11_124 (hG.o0 42 rfl) (hG.lt0 42 (by decide)) (hG.l0 42 rfl) dX11_queue_23 ?_
    refine ya_iload_n 0 rfl dX11_queue_26 ?_
    refine ya_iald (hG.s0 44 rfl) (hG.lt0 44 (by decide)) dX11_queue_27 h (fun x27 h => ?_)
    refine ya_aload_n 1 rfl dX11_queue_28 ?_
    obtain ⟨d29, e29, h⟩ := ya_ob h
    refine ya_callVa (S := [.int x27, .int 0]) (c_X11_thisYear hG e29) m_X11_thisYear ⟨rfl, rfl⟩ ml_X11_117 rfl ⟨Nat.le_of_ble_eq_true rfl, Nat.le_of_ble_eq_true rfl⟩ (Nat.le_of_ble_eq_true rfl) (hG.lt0 0 (by decide)) (hG.o0 0 rfl) (by decide) rfl rfl ⟨Nat.le_refl _, Nat.le_refl _⟩ dX11_queue_29 rfl ?_
    refine ya_getR fo_X11_121 (hG.o0 42 rfl) (hG.lt0 42 (by decide)) (hG.l0 41 rfl) dX11_queue_32 ?_
    refine ya_iload_n 0 rfl dX11_queue_35 ?_
    refine ya_iald (hG.s0 43 rfl) (hG.lt0 43 (by decide)) dX11_queue_36 h (fun x36 h => ?_)
    refine ya_isub dX11_queue_37 ?_
    refine ya_mmax ml_X11_201 wm_max1 wm_max2 wm_max3 (by decide) (Nat.le_of_ble_eq_true rfl) ⟨Nat.le_refl _, Nat.le_refl _⟩ dX11_queue_38 ?_
    cases h
    exact ya_iret rfl rfl rfl rfl rfl (Nat.le_refl _) dX11_queue_41
  · replace h := ya_itet h c
    refine ya_bipush (-2) (by decide) dX11_queue_9 ?_
    cases h
    exact ya_iret rfl rfl rfl rfl rfl (Nat.le_refl _) dX11_queue_11
set_option maxRecDepth 20000 in
theorem c_X11_spoils {X : ya_X} {G : ya_G} {v1 : Int32} {v2 : Int32} {d : ya_D} {rr : (Int32 × ya_D)} (hG : ya_Bk ya_sh ya_ln G 0) (h : f_X11_spoils v1 v2 d = some rr) : ya_Ct X yX11_spoils Y_X11_spoils [.ref (X.2.1 + 0), .int v1, .int v2] G d (some (.int rr.1), G, rr.2) := by
  refine ya_ct (by decide +kernel) rfl rfl (Nat.le_of_ble_eq_true rfl) ?_
  unfold f_X11_spoils at h
  show ya_E X Y_X11_spoils (ya_M X (some (.int rr.1), G, rr.2) 0 0) 0 [(0, .ref (X.2.1 + 0)), (1, .int v1), (2, .int v2)] [] G d 0 0
  refine ya_aload_n 0 rfl dX11_spoils_0 ?_
  refine ya_iload_n 1 rfl dX11_spoils_1 ?_
  refine ya_iload_n 2 rfl dX11_spoils_2 ?_
  obtain ⟨x3, e3, h⟩ := ya_ob h
  refine ya_callVi (S := []) (c_X11_isThingDay hG e3) m_X11_isThingDay ⟨rfl, rfl⟩ ml_X11_96 rfl ⟨Nat.le_of_ble_eq_true rfl, Nat.le_of_ble_eq_true rfl⟩ (Nat.le_of_ble_eq_true rfl) (hG.lt0 0 (by decide)) (hG.o0 0 rfl) (by decide) rfl rfl ⟨Nat.le_refl _, Nat.le_refl _⟩ dX11_spoils_3 rfl ?_
  refine ya_ifeq 25 (by decide) dX11_spoils_6 (fun c => ?_) (fun c => ?_)
  · replace h := ya_itet h c
    refine ya_bipush (-2) (by decide) dX11_spoils_25 ?_
    cases h
    exact ya_iret rfl rfl rfl rfl rfl (Nat.le_refl _) dX11_spoils_27
  · replace h := ya_itef h c
    refine ya_aload_n 0 rfl dX11_spoils_9 ?_
    obtain ⟨d10, e10, h⟩ := ya_ob h
    refine ya_callVa (S := []) (c_X11_thisYear hG e10) m_X11_thisYear ⟨rfl, rfl⟩ ml_X11_117 rfl ⟨Nat.le_of_ble_eq_true rfl, Nat.le_of_ble_eq_true rfl⟩ (Nat.le_of_ble_eq_true rfl) (hG.lt0 0 (by decide)) (hG.o0 0 rfl) (by decide) rfl rfl ⟨Nat.le_refl _, Nat.le_refl _⟩ dX11_spoils_10 rfl ?_
    refine ya_getR fo_X11_206 (hG.o0 42 rfl) (hG.lt0 42 (by decide)) (hG.l0 44 rfl) dX11_spoils_13 ?_
    refine ya_iload_n 1 rfl dX11_spoils_16 ?_
    refine ya_iload_n 2 rfl dX11_spoils_17 ?_
    obtain ⟨x18, e18, h⟩ := ya_ob h
    refine ya_callSi (S := [.ref (X.2.1 + 46)]) (c_X11_cell hG e18) m_X11_cell ⟨rfl, rfl⟩ ml_X11_110 rfl ⟨Nat.le_of_ble_eq_true rfl, Nat.le_of_ble_eq_true rfl⟩ (Nat.le_of_ble_eq_true rfl) ⟨Nat.le_refl _, Nat.le_refl _⟩ dX11_spoils_18 rfl ?_
    refine ya_iald (hG.s0 46 rfl) (hG.lt0 46 (by decide)) dX11_spoils_21 h (fun x21 h => ?_)
    refine ya_goto 27 (by decide) dX11_spoils_22 ?_
    cases h
    exact ya_iret rfl rfl rfl rfl rfl (Nat.le_refl _) dX11_spoils_27
set_option maxRecDepth 20000 in
theorem w_X11_clears_L30 {X : ya_X} {G : ya_G} {v1 : Int32} {v2 : Int32} {v3 : Int32} {d : ya_D} {rr : (Int32 × ya_D)} (hG : ya_Bk ya_sh ya_ln G 0) : ∀ (n : Nat) (v4 : Int32), f_X11_clears_L30 v1 v2 v3 d n v4 = some rr → ya_E X Y_X11_clears (ya_M X (some (.int rr.1), G, rr.2) 0 0) 30 [(0, .ref (X.2.1 + 0)), (1, .int v1), (2, .int v2), (3, .int v3), (4, .int v4)] [] G d 0 0 := by
  intro n
  induction n with
  | zero => intro v4 h; cases h
  | succ n ih =>
    intro v4 h
    rw [f_X11_clears_L30] at h
    refine ya_iload 4 rfl dX11_clears_30 ?_
    refine ya_iflt 62 (by decide) dX11_clears_32 (fun c => ?_) (fun c => ?_)
    · replace h := ya_itet h c
      refine ya_iconst (-1) (by decide) dX11_clears_62 ?_
      cases h
      exact ya_iret rfl rfl rfl rfl rfl (Nat.le_refl _) dX11_clears_63
    · replace h := ya_itef h c
      refine ya_aload_n 0 rfl dX11_clears_35 ?_
      refine ya_getR fo_X11_26 (hG.o0 0 rfl) (hG.lt0 0 (by decide)) (hG.l0 40 rfl) dX11_clears_36 ?_
      refine ya_getR fo_X11_168 (hG.o0 24 rfl) (hG.lt0 24 (by decide)) (hG.l0 39 rfl) dX11_clears_39 ?_
      refine ya_iload_n 1 rfl dX11_clears_42 ?_
      refine ya_iload_n 2 rfl dX11_clears_43 ?_
      refine ya_iload 4 rfl dX11_clears_44 ?_
      obtain ⟨x46, e46, h⟩ := ya_ob h
      refine ya_callVi (S := []) (c_X1_wanted hG (bk_0_35 hG) e46) m_X1_wanted ⟨rfl, rfl⟩ ml_X11_209 rfl ⟨Nat.le_of_ble_eq_true rfl, Nat.le_of_ble_eq_true rfl⟩ (Nat.le_of_ble_eq_true rfl) (hG.lt0 35 (by decide)) (hG.o0 35 rfl) (by decide) rfl rfl ⟨Nat.le_refl _, Nat.le_refl _⟩ dX11_clears_46 rfl ?_
      refine ya_iload_n 3 rfl dX11_clears_49 ?_
      refine ya_icmp_lt 56 (by decide) dX11_clears_50 (fun c => ?_) (fun c => ?_)
      · replace h := ya_itet h c
        refine ya_iinc (v4 + (-1)) (congrArg (fun z => v4 + z) (by decide : Int32.ofInt (-1) = (-1))) 4 rfl [(4, .int (v4 + (-1))), (0, .ref (X.2.1 + 0)), (1, .int v1), (2, .int v2), (3, .int v3)] (by decide) rfl dX11_clears_56 ?_
        refine ya_goto 30 (by decide) dX11_clears_59 ?_
        refine ya_sub [(0, .ref (X.2.1 + 0)), (1, .int v1), (2, .int v2), (3, .int v3), (4, .int (v4 + (-1)))] [1, 2, 3, 4, 0] rfl ?_
        exact ih _ h
      · replace h := ya_itef h c
        refine ya_iload 4 rfl dX11_clears_53 ?_
        cases h
        exact ya_iret rfl rfl rfl rfl rfl (Nat.le_refl _) dX11_clears_55
set_option maxRecDepth 20000 in
theorem c_X11_clears {X : ya_X} {G : ya_G} {v1 : Int32} {v2 : Int32} {d : ya_D} {rr : (Int32 × ya_D)} (hG : ya_Bk ya_sh ya_ln G 0) (h : f_X11_clears v1 v2 d = some rr) : ya_Ct X yX11_clears Y_X11_clears [.ref (X.2.1 + 0), .int v1, .int v2] G d (some (.int rr.1), G, rr.2) := by
  refine ya_ct (by decide +kernel) rfl rfl (Nat.le_of_ble_eq_true rfl) ?_
  unfold f_X11_clears at h
  show ya_E X Y_X11_clears (ya_M X (some (.int rr.1), G, rr.2) 0 0) 0 [(0, .ref (X.2.1 + 0)), (1, .int v1), (2, .int v2)] [] G d 0 0
  refine ya_aload_n 0 rfl dX11_clears_0 ?_
  refine ya_iload_n 1 rfl dX11_clears_1 ?_
  refine ya_iload_n 2 rfl dX11_clears_2 ?_
  obtain ⟨x3, e3, h⟩ := ya_ob h
  refine ya_callVi (S := []) (c_X11_isThingDay hG e3) m_X11_isThingDay ⟨rfl, rfl⟩ ml_X11_96 rfl ⟨Nat.le_of_ble_eq_true rfl, Nat.le_of_ble_eq_true rfl⟩ (Nat.le_of_ble_eq_true rfl) (hG.lt0 0 (by decide)) (hG.o0 0 rfl) (by decide) rfl rfl ⟨Nat.le_refl _, Nat.le_refl _⟩ dX11_clears_3 rfl ?_
  refine ya_ifne 12 (by decide) dX11_clears_6 (fun c => ?_) (fun c => ?_)
  · replace h := ya_itef h c
    refine ya_aload_n 0 rfl dX11_clears_12 ?_
    obtain ⟨d13, e13, h⟩ := ya_ob h
    refine ya_callVa (S := []) (c_X11_thisYear hG e13) m_X11_thisYear ⟨rfl, rfl⟩ ml_X11_117 rfl ⟨Nat.le_of_ble_eq_true rfl, Nat.le_of_ble_eq_true rfl⟩ (Nat.le_of_ble_eq_true rfl) (hG.lt0 0 (by decide)) (hG.o0 0 rfl) (by decide) rfl rfl ⟨Nat.le_refl _, Nat.le_refl _⟩ dX11_clears_13 rfl ?_
    refine ya_getR fo_X11_121 (hG.o0 42 rfl) (hG.lt0 42 (by decide)) (hG.l0 41 rfl) dX11_clears_16 ?_
    refine ya_iload_n 1 rfl dX11_clears_19 ?_
    refine ya_iload_n 2 rfl dX11_clears_20 ?_
    obtain ⟨x21, e21, h⟩ := ya_ob h
    refine ya_callSi (S := [.ref (X.2.1 + 43)]) (c_X11_cell hG e21) m_X11_cell ⟨rfl, rfl⟩ ml_X11_110 rfl ⟨Nat.le_of_ble_eq_true rfl, Nat.le_of_ble_eq_true rfl⟩ (Nat.le_of_ble_eq_true rfl) ⟨Nat.le_refl _, Nat.le_refl _⟩ dX11_clears_21 rfl ?_
    refine ya_iald (hG.s0 43 rfl) (hG.lt0 43 (by decide)) dX11_clears_24 h (fun x24 h => ?_)
    refine ya_istore_n [(3, .int x24), (0, .ref (X.2.1 + 0)), (1, .int v1), (2, .int v2)] (by decide) rfl dX11_clears_25 ?_
    refine ya_bipush 99 (by decide) dX11_clears_26 ?_
    refine ya_istore [(4, .int 99), (3, .int x24), (0, .ref (X.2.1 + 0)), (1, .int v1), (2, .int v2)] (by decide) rfl dX11_clears_28 ?_
    refine ya_sub [(0, .ref (X.2.1 + 0)), (1, .int v1), (2, .int v2), (3, .int x24), (4, .int 99)] [2, 3, 4, 1, 0] rfl ?_
    refine w_X11_clears_L30 hG  ya_F _ h
  · replace h := ya_itet h c
    refine ya_bipush (-2) (by decide) dX11_clears_9 ?_
    cases h
    exact ya_iret rfl rfl rfl rfl rfl (Nat.le_refl _) dX11_clears_11
set_option maxRecDepth 20000 in
theorem w_X11_village_L41 {X : ya_X} {G : ya_G} {v1 : Int32} {v2 : Int32} {d : ya_D} {rr : (Int32 × ya_D)} {e71 : Int32 → Option (Int32 × ya_D)} (hG : ya_Bk ya_sh ya_ln G 0) (he71 : ∀ (v4 : Int32), e71 v4 = some rr → ya_E X Y_X11_village (ya_M X (some (.int rr.1), G, rr.2) 0 0) 71 [(1, .int v1), (2, .int v2), (3, .ref (X.2.1 + 42)), (4, .int v4)] [] G d 0 0) : ∀ (n : Nat) (v4 : Int32) (v5 : Int32), f_X11_village_L41 v1 v2 d e71 n v4 v5 = some rr → ya_E X Y_X11_village (ya_M X (some (.int rr.1), G, rr.2) 0 0) 41 [(0, .ref (X.2.1 + 0)), (1, .int v1), (2, .int v2), (3, .ref (X.2.1 + 42)), (4, .int v4), (5, .int v5)] [] G d 0 0 := by
  intro n
  induction n with
  | zero => intro v4 v5 h; cases h
  | succ n ih =>
    intro v4 v5 h
    rw [f_X11_village_L41] at h
    refine ya_iload 5 rfl dX11_village_41 ?_
    refine ya_aload_n 0 rfl dX11_village_43 ?_
    refine ya_getR fo_X11_26 (hG.o0 0 rfl) (hG.lt0 0 (by decide)) (hG.l0 40 rfl) dX11_village_44 ?_
    refine ya_getI fo_X11_192 (hG.o0 24 rfl) (hG.lt0 24 (by decide)) dX11_village_47 ?_
    refine ya_icmp_ge 71 (by decide) dX11_village_50 (fun c => ?_) (fun c => ?_)
    · replace h := ya_itet h c
      refine ya_sub [(1, .int v1), (2, .int v2), (3, .ref (X.2.1 + 42)), (4, .int v4)] [1, 2, 3, 4] rfl ?_
      exact he71 _ h
    · replace h := ya_itef h c
      refine ya_iload 4 rfl dX11_village_53 ?_
      refine ya_aload_n 3 rfl dX11_village_55 ?_
      refine ya_iload_n 1 rfl dX11_village_56 ?_
      refine ya_iload 5 rfl dX11_village_57 ?_
      obtain ⟨x59, e59, h⟩ := ya_ob h
      refine ya_callVi (S := [.int v4]) (c_X10_takings hG (bk_0_42 hG) e59) m_X10_takings ⟨rfl, rfl⟩ ml_X11_195 rfl ⟨Nat.le_of_ble_eq_true rfl, Nat.le_of_ble_eq_true rfl⟩ (Nat.le_of_ble_eq_true rfl) (hG.lt0 42 (by decide)) (hG.o0 42 rfl) (by decide) rfl rfl ⟨Nat.le_refl _, Nat.le_refl _⟩ dX11_village_59 rfl ?_
      refine ya_iadd dX11_village_62 ?_
      refine ya_istore [(4, .int (v4 + x59)), (0, .ref (X.2.1 + 0)), (1, .int v1), (2, .int v2), (3, .ref (X.2.1 + 42)), (5, .int v5)] (by decide) rfl dX11_village_63 ?_
      refine ya_iinc (v5 + 1) rfl 5 rfl [(5, .int (v5 + 1)), (4, .int (v4 + x59)), (0, .ref (X.2.1 + 0)), (1, .int v1), (2, .int v2), (3, .ref (X.2.1 + 42))] (by decide) rfl dX11_village_65 ?_
      refine ya_goto 41 (by decide) dX11_village_68 ?_
      refine ya_sub [(0, .ref (X.2.1 + 0)), (1, .int v1), (2, .int v2), (3, .ref (X.2.1 + 42)), (4, .int (v4 + x59)), (5, .int (v5 + 1))] [2, 3, 4, 5, 1, 0] rfl ?_
      exact ih _ _ h
set_option maxRecDepth 20000 in
theorem c_X11_village {X : ya_X} {G : ya_G} {v1 : Int32} {v2 : Int32} {d : ya_D} {rr : (Int32 × ya_D)} (hG : ya_Bk ya_sh ya_ln G 0) (h : f_X11_village v1 v2 d = some rr) : ya_Ct X yX11_village Y_X11_village [.ref (X.2.1 + 0), .int v1, .int v2] G d (some (.int rr.1), G, rr.2) := by
  refine ya_ct (by decide +kernel) rfl rfl (Nat.le_of_ble_eq_true rfl) ?_
  unfold f_X11_village at h
  show ya_E X Y_X11_village (ya_M X (some (.int rr.1), G, rr.2) 0 0) 0 [(0, .ref (X.2.1 + 0)), (1, .int v1), (2, .int v2)] [] G d 0 0
  refine ya_aload_n 0 rfl dX11_village_0 ?_
  obtain ⟨x1, e1, h⟩ := ya_ob h
  refine ya_callVi (S := []) (c_X11_isMarket hG e1) m_X11_isMarket ⟨rfl, rfl⟩ ml_X11_177 rfl ⟨Nat.le_of_ble_eq_true rfl, Nat.le_of_ble_eq_true rfl⟩ (Nat.le_of_ble_eq_true rfl) (hG.lt0 0 (by decide)) (hG.o0 0 rfl) (by decide) rfl rfl ⟨Nat.le_refl _, Nat.le_refl _⟩ dX11_village_1 rfl ?_
  refine ya_j0_s h (ya_E X Y_X11_village (ya_M X (some (.int rr.1), G, rr.2) 0 0) 27 [] [] G d 0 0) (fun h => ?_) (fun k27 hk27 h => ?_)
  · refine ya_bipush (-2) (by decide) dX11_village_27 ?_
    cases h
    exact ya_iret rfl rfl rfl rfl rfl (Nat.le_refl _) dX11_village_29
  · refine ya_ifeq 27 (by decide) dX11_village_4 (fun c => ?_) (fun c => ?_)
    · replace h := ya_itet h c
      refine ya_sub [] [] rfl ?_
      exact hk27  h
    · replace h := ya_itef h c
      refine ya_iload_n 1 rfl dX11_village_7 ?_
      refine ya_iflt 27 (by decide) dX11_village_8 (fun c => ?_) (fun c => ?_)
      · replace h := ya_itet h c
        refine ya_sub [] [] rfl ?_
        exact hk27  h
      · replace h := ya_itef h c
        refine ya_iload_n 1 rfl dX11_village_11 ?_
        refine ya_iconst 1 (by decide) dX11_village_12 ?_
        refine ya_aload_n 0 rfl dX11_village_13 ?_
        refine ya_getR fo_X11_26 (hG.o0 0 rfl) (hG.lt0 0 (by decide)) (hG.l0 40 rfl) dX11_village_14 ?_
        refine ya_getR fo_X11_181 (hG.o0 24 rfl) (hG.lt0 24 (by decide)) (hG.l0 32 rfl) dX11_village_17 ?_
        refine ya_getI fo_X11_185 (hG.o0 30 rfl) (hG.lt0 30 (by decide)) dX11_village_20 ?_
        refine ya_ishl dX11_village_23 ?_
        refine ya_icmp_lt 30 (by decide) dX11_village_24 (fun c => ?_) (fun c => ?_)
        · replace h := ya_itet h c
          refine ya_aload_n 0 rfl dX11_village_30 ?_
          obtain ⟨d31, e31, h⟩ := ya_ob h
          refine ya_callVa (S := []) (c_X11_thisYear hG e31) m_X11_thisYear ⟨rfl, rfl⟩ ml_X11_117 rfl ⟨Nat.le_of_ble_eq_true rfl, Nat.le_of_ble_eq_true rfl⟩ (Nat.le_of_ble_eq_true rfl) (hG.lt0 0 (by decide)) (hG.o0 0 rfl) (by decide) rfl rfl ⟨Nat.le_refl _, Nat.le_refl _⟩ dX11_village_31 rfl ?_
          refine ya_astore_n [(3, .ref (X.2.1 + 42)), (0, .ref (X.2.1 + 0)), (1, .int v1), (2, .int v2)] (by decide) rfl dX11_village_34 ?_
          refine ya_iconst 0 (by decide) dX11_village_35 ?_
          refine ya_istore [(4, .int 0), (3, .ref (X.2.1 + 42)), (0, .ref (X.2.1 + 0)), (1, .int v1), (2, .int v2)] (by decide) rfl dX11_village_36 ?_
          refine ya_iconst 0 (by decide) dX11_village_38 ?_
          refine ya_istore [(5, .int 0), (4, .int 0), (3, .ref (X.2.1 + 42)), (0, .ref (X.2.1 + 0)), (1, .int v1), (2, .int v2)] (by decide) rfl dX11_village_39 ?_
          refine ya_sub [(0, .ref (X.2.1 + 0)), (1, .int v1), (2, .int v2), (3, .ref (X.2.1 + 42)), (4, .int 0), (5, .int 0)] [3, 4, 5, 2, 1, 0] rfl ?_
          refine w_X11_village_L41 hG (fun v4_71 h => ?_) ya_F _ _ h
          refine ya_iload_n 1 rfl dX11_village_71 ?_
          rcases ya_ite h with ⟨c72_0, h⟩ | ⟨n72_0, h⟩
          · refine ya_tswIn 0 100 c72_0 (by decide) (by decide) rfl (by decide) dX11_village_72 ?_
            refine ya_iload 3 rfl dX11_village_100 ?_
            refine ya_ifne 109 (by decide) dX11_village_102 (fun c => ?_) (fun c => ?_)
            · replace h := ya_itef h c
              refine ya_aload_n 2 rfl dX11_village_109 ?_
              refine ya_iload_n 0 rfl dX11_village_110 ?_
              obtain ⟨x111, e111, h⟩ := ya_ob h
              refine ya_callVi (S := []) (c_X10_richestDay hG (bk_0_42 hG) e111) m_X10_richestDay ⟨rfl, rfl⟩ ml_X11_146 rfl ⟨Nat.le_of_ble_eq_true rfl, Nat.le_of_ble_eq_true rfl⟩ (Nat.le_of_ble_eq_true rfl) (hG.lt0 42 (by decide)) (hG.o0 42 rfl) (by decide) rfl rfl ⟨Nat.le_refl _, Nat.le_refl _⟩ dX11_village_111 rfl ?_
              cases h
              exact ya_iret rfl rfl rfl rfl rfl (Nat.le_refl _) dX11_village_114
            · replace h := ya_itet h c
              refine ya_iconst (-1) (by decide) dX11_village_105 ?_
              refine ya_goto 114 (by decide) dX11_village_106 ?_
              cases h
              exact ya_iret rfl rfl rfl rfl rfl (Nat.le_refl _) dX11_village_114
          · rcases ya_ite h with ⟨c72_1, h⟩ | ⟨n72_1, h⟩
            · refine ya_tswIn 1 115 c72_1 (by decide) (by decide) rfl (by decide) dX11_village_72 ?_
              refine ya_aload_n 2 rfl dX11_village_115 ?_
              refine ya_iload_n 0 rfl dX11_village_116 ?_
              refine ya_aload_n 2 rfl dX11_village_117 ?_
              refine ya_iload_n 0 rfl dX11_village_118 ?_
              obtain ⟨x119, e119, h⟩ := ya_ob h
              refine ya_callVi (S := [.int v1, .ref (X.2.1 + 42)]) (c_X10_richestDay hG (bk_0_42 hG) e119) m_X10_richestDay ⟨rfl, rfl⟩ ml_X11_146 rfl ⟨Nat.le_of_ble_eq_true rfl, Nat.le_of_ble_eq_true rfl⟩ (Nat.le_of_ble_eq_true rfl) (hG.lt0 42 (by decide)) (hG.o0 42 rfl) (by decide) rfl rfl ⟨Nat.le_refl _, Nat.le_refl _⟩ dX11_village_119 rfl ?_
              obtain ⟨x122, e122, h⟩ := ya_ob h
              refine ya_callVi (S := []) (c_X10_takings hG (bk_0_42 hG) e122) m_X10_takings ⟨rfl, rfl⟩ ml_X11_195 rfl ⟨Nat.le_of_ble_eq_true rfl, Nat.le_of_ble_eq_true rfl⟩ (Nat.le_of_ble_eq_true rfl) (hG.lt0 42 (by decide)) (hG.o0 42 rfl) (by decide) rfl rfl ⟨Nat.le_refl _, Nat.le_refl _⟩ dX11_village_122 rfl ?_
              cases h
              exact ya_iret rfl rfl rfl rfl rfl (Nat.le_refl _) dX11_village_125
            · rcases ya_ite h with ⟨c72_2, h⟩ | ⟨n72_2, h⟩
              · refine ya_tswIn 2 126 c72_2 (by decide) (by decide) rfl (by decide) dX11_village_72 ?_
                refine ya_iload 3 rfl dX11_village_126 ?_
                cases h
                exact ya_iret rfl rfl rfl rfl rfl (Nat.le_refl _) dX11_village_128
              · refine ya_tswOut 129 (ya_out [0, 1, 2] (List.forall_mem_cons.mpr ⟨n72_0, (List.forall_mem_cons.mpr ⟨n72_1, (List.forall_mem_cons.mpr ⟨n72_2, (fun _ hq => absurd hq List.not_mem_nil)⟩)⟩)⟩) (by decide)) (by decide) dX11_village_72 ?_
                refine ya_bipush (-2) (by decide) dX11_village_129 ?_
                cases h
                exact ya_iret rfl rfl rfl rfl rfl (Nat.le_refl _) dX11_village_131
        · replace h := ya_itef h c
          refine ya_sub [] [] rfl ?_
          exact hk27  h
set_option maxRecDepth 20000 in
theorem c_X11_within {X : ya_X} {G : ya_G} {v0 : Int32} {v1 : Int32} {v2 : Int32} {d : ya_D} {rr : Int32} (hG : ya_Bk ya_sh ya_ln G 0) (h : f_X11_within v0 v1 v2 = some rr) : ya_Ct X yX11_within Y_X11_within [.int v0, .int v1, .int v2] G d (some (.int rr), G, d) := by
  refine ya_ct (by decide +kernel) rfl rfl (Nat.le_of_ble_eq_true rfl) ?_
  unfold f_X11_within at h
  show ya_E X Y_X11_within (ya_M X (some (.int rr), G, d) 0 0) 0 [(0, .int v0), (1, .int v1), (2, .int v2)] [] G d 0 0
  refine ya_iload_n 0 rfl dX11_within_0 ?_
  refine ya_iload_n 1 rfl dX11_within_1 ?_
  refine ya_j0_s h (ya_E X Y_X11_within (ya_M X (some (.int rr), G, d) 0 0) 14 [] [] G d 0 0) (fun h => ?_) (fun k14 hk14 h => ?_)
  · refine ya_iconst 0 (by decide) dX11_within_14 ?_
    cases h
    exact ya_zret .boolean rfl rfl rfl rfl (by decide) rfl (Nat.le_refl _) dX11_within_15
  · refine ya_icmp_lt 14 (by decide) dX11_within_2 (fun c => ?_) (fun c => ?_)
    · replace h := ya_itet h c
      refine ya_sub [] [] rfl ?_
      exact hk14  h
    · replace h := ya_itef h c
      refine ya_iload_n 0 rfl dX11_within_5 ?_
      refine ya_iload_n 2 rfl dX11_within_6 ?_
      refine ya_icmp_gt 14 (by decide) dX11_within_7 (fun c => ?_) (fun c => ?_)
      · replace h := ya_itet h c
        refine ya_sub [] [] rfl ?_
        exact hk14  h
      · replace h := ya_itef h c
        refine ya_iconst 1 (by decide) dX11_within_10 ?_
        refine ya_goto 15 (by decide) dX11_within_11 ?_
        cases h
        exact ya_zret .boolean rfl rfl rfl rfl (by decide) rfl (Nat.le_refl _) dX11_within_15
set_option maxRecDepth 20000 in
theorem c_J6_bitCount_0f7a4 {X : ya_X} {G : ya_G} {v0 : Int32} {d : ya_D} {rr : Int32} (hG : ya_Bk ya_sh ya_ln G 0) (h : f_J6_bitCount_0f7a4 v0 = some rr) : ya_Ct X yJ6_bitCount_0f7a4 Y_J6_bitCount_0f7a4 [.int v0] G d (some (.int rr), G, d) := by
  refine ya_ct (by decide +kernel) rfl rfl (Nat.le_of_ble_eq_true rfl) ?_
  unfold f_J6_bitCount_0f7a4 at h
  show ya_E X Y_J6_bitCount_0f7a4 (ya_M X (some (.int rr), G, d) 0 0) 0 [(0, .int v0)] [] G d 0 0
  refine ya_iload_n 0 rfl dJ6_bitCount_0f7a4_0 ?_
  refine ya_iload_n 0 rfl dJ6_bitCount_0f7a4_1 ?_
  refine ya_iconst 1 (by decide) dJ6_bitCount_0f7a4_2 ?_
  refine ya_iushr dJ6_bitCount_0f7a4_3 ?_
  refine ya_ldcw 1431655765 kc_J6_265 dJ6_bitCount_0f7a4_4 ?_
  refine ya_iand dJ6_bitCount_0f7a4_7 ?_
  refine ya_isub dJ6_bitCount_0f7a4_8 ?_
  obtain ⟨w9, hw, h⟩ := ya_ob h
  refine ya_nmI hw ?_
  refine ya_istore_n [(0, .int w9)] (by decide) rfl dJ6_bitCount_0f7a4_9 ?_
  refine ya_iload_n 0 rfl dJ6_bitCount_0f7a4_10 ?_
  refine ya_ldcw 858993459 kc_J6_266 dJ6_bitCount_0f7a4_11 ?_
  refine ya_iand dJ6_bitCount_0f7a4_14 ?_
  refine ya_iload_n 0 rfl dJ6_bitCount_0f7a4_15 ?_
  refine ya_iconst 2 (by decide) dJ6_bitCount_0f7a4_16 ?_
  refine ya_iushr dJ6_bitCount_0f7a4_17 ?_
  refine ya_ldcw 858993459 kc_J6_266 dJ6_bitCount_0f7a4_18 ?_
  refine ya_iand dJ6_bitCount_0f7a4_21 ?_
  refine ya_iadd dJ6_bitCount_0f7a4_22 ?_
  obtain ⟨w23, hw, h⟩ := ya_ob h
  refine ya_nmI hw ?_
  refine ya_istore_n [(0, .int w23)] (by decide) rfl dJ6_bitCount_0f7a4_23 ?_
  refine ya_iload_n 0 rfl dJ6_bitCount_0f7a4_24 ?_
  refine ya_iload_n 0 rfl dJ6_bitCount_0f7a4_25 ?_
  refine ya_iconst 4 (by decide) dJ6_bitCount_0f7a4_26 ?_
  refine ya_iushr dJ6_bitCount_0f7a4_27 ?_
  refine ya_iadd dJ6_bitCount_0f7a4_28 ?_
  refine ya_ldcw 252645135 kc_J6_267 dJ6_bitCount_0f7a4_29 ?_
  refine ya_iand dJ6_bitCount_0f7a4_32 ?_
  obtain ⟨w33, hw, h⟩ := ya_ob h
  refine ya_nmI hw ?_
  refine ya_istore_n [(0, .int w33)] (by decide) rfl dJ6_bitCount_0f7a4_33 ?_
  refine ya_iload_n 0 rfl dJ6_bitCount_0f7a4_34 ?_
  refine ya_iload_n 0 rfl dJ6_bitCount_0f7a4_35 ?_
  refine ya_bipush 8 (by decide) dJ6_bitCount_0f7a4_36 ?_
  refine ya_iushr dJ6_bitCount_0f7a4_38 ?_
  refine ya_iadd dJ6_bitCount_0f7a4_39 ?_
  obtain ⟨w40, hw, h⟩ := ya_ob h
  refine ya_nmI hw ?_
  refine ya_istore_n [(0, .int w40)] (by decide) rfl dJ6_bitCount_0f7a4_40 ?_
  refine ya_iload_n 0 rfl dJ6_bitCount_0f7a4_41 ?_
  refine ya_iload_n 0 rfl dJ6_bitCount_0f7a4_42 ?_
  refine ya_bipush 16 (by decide) dJ6_bitCount_0f7a4_43 ?_
  refine ya_iushr dJ6_bitCount_0f7a4_45 ?_
  refine ya_iadd dJ6_bitCount_0f7a4_46 ?_
  obtain ⟨w47, hw, h⟩ := ya_ob h
  refine ya_nmI hw ?_
  refine ya_istore_n [(0, .int w47)] (by decide) rfl dJ6_bitCount_0f7a4_47 ?_
  refine ya_iload_n 0 rfl dJ6_bitCount_0f7a4_48 ?_
  refine ya_bipush 63 (by decide) dJ6_bitCount_0f7a4_49 ?_
  refine ya_iand dJ6_bitCount_0f7a4_51 ?_
  cases h
  exact ya_iret rfl rfl rfl rfl rfl (Nat.le_refl _) dJ6_bitCount_0f7a4_52
set_option maxRecDepth 20000 in
theorem w_X11_ordersWithAll_L37 {X : ya_X} {G : ya_G} {v1 : Int32} {v2 : Int32} {v3 : Int32} {v4 : Int32} {v6 : Int32} {v7 : Int32} {d : ya_D} {rr : Int32} (hG : ya_Bk ya_sh ya_ln G 0) : ∀ (n : Nat) (v8 : Int32) (v9 : Int32), f_X11_ordersWithAll_L37 v1 v2 v3 v4 v6 v7 d n v8 v9 = some rr → ya_E X Y_X11_ordersWithAll (ya_M X (some (.int rr), G, d) 0 0) 37 [(1, .int v1), (2, .int v2), (3, .int v3), (4, .int v4), (5, .ref (X.2.1 + 35)), (6, .int v6), (7, .int v7), (8, .int v8), (9, .int v9)] [] G d 0 0 := by
  intro n
  induction n with
  | zero => intro v8 v9 h; cases h
  | succ n ih =>
    intro v8 v9 h
    rw [f_X11_ordersWithAll_L37] at h
    refine ya_iload 8 rfl dX11_ordersWithAll_37 ?_
    refine ya_iconst 1 (by decide) dX11_ordersWithAll_39 ?_
    refine ya_aload 4 rfl dX11_ordersWithAll_40 ?_
    refine ya_getI fo_X11_343 (hG.o0 35 rfl) (hG.lt0 35 (by decide)) dX11_ordersWithAll_42 ?_
    refine ya_ishl dX11_ordersWithAll_45 ?_
    refine ya_icmp_ge 145 (by decide) dX11_ordersWithAll_46 (fun c => ?_) (fun c => ?_)
    · replace h := ya_itet h c
      refine ya_iload 7 rfl dX11_ordersWithAll_145 ?_
      cases h
      exact ya_iret rfl rfl rfl rfl rfl (Nat.le_refl _) dX11_ordersWithAll_147
    · replace h := ya_itef h c
      refine ya_aload 4 rfl dX11_ordersWithAll_49 ?_
      refine ya_iload 8 rfl dX11_ordersWithAll_51 ?_
      refine ya_iload 5 rfl dX11_ordersWithAll_53 ?_
      refine ya_iload_n 1 rfl dX11_ordersWithAll_55 ?_
      refine ya_iload_n 2 rfl dX11_ordersWithAll_56 ?_
      obtain ⟨x57, e57, h⟩ := ya_ob h
      refine ya_callVi (S := []) (c_X1_allCome hG (bk_0_35 hG) e57) m_X1_allCome ⟨rfl, rfl⟩ ml_X11_371 rfl ⟨Nat.le_of_ble_eq_true rfl, Nat.le_of_ble_eq_true rfl⟩ (Nat.le_of_ble_eq_true rfl) (hG.lt0 35 (by decide)) (hG.o0 35 rfl) (by decide) rfl rfl ⟨Nat.le_refl _, Nat.le_refl _⟩ dX11_ordersWithAll_57 rfl ?_
      refine ya_j1_s h (fun v8_139 => ya_E X Y_X11_ordersWithAll (ya_M X (some (.int rr), G, d) 0 0) 139 [(1, .int v1), (2, .int v2), (3, .int v3), (4, .int v4), (5, .ref (X.2.1 + 35)), (6, .int v6), (7, .int v7), (8, .int v8_139), (9, .int v9)] [] G d 0 0) (fun v8_139 h => ?_) (fun k139 hk139 h => ?_)
      · refine ya_iinc (v9 + 1) rfl 8 rfl [(9, .int (v9 + 1)), (1, .int v1), (2, .int v2), (3, .int v3), (4, .int v4), (5, .ref (X.2.1 + 35)), (6, .int v6), (7, .int v7), (8, .int v8_139)] (by decide) rfl dX11_ordersWithAll_139 ?_
        refine ya_goto 37 (by decide) dX11_ordersWithAll_142 ?_
        refine ya_sub [(1, .int v1), (2, .int v2), (3, .int v3), (4, .int v4), (5, .ref (X.2.1 + 35)), (6, .int v6), (7, .int v7), (8, .int v8_139), (9, .int (v9 + 1))] [1, 2, 3, 4, 5, 6, 7, 8, 0] rfl ?_
        exact ih _ _ h
      · refine ya_ifeq 139 (by decide) dX11_ordersWithAll_60 (fun c => ?_) (fun c => ?_)
        · replace h := ya_itet h c
          exact hk139 _ h
        · replace h := ya_itef h c
          refine ya_iload 8 rfl dX11_ordersWithAll_63 ?_
          refine ya_iload_n 0 rfl dX11_ordersWithAll_65 ?_
          refine ya_ishr dX11_ordersWithAll_66 ?_
          refine ya_iconst 1 (by decide) dX11_ordersWithAll_67 ?_
          refine ya_iand dX11_ordersWithAll_68 ?_
          refine ya_ifne 139 (by decide) dX11_ordersWithAll_69 (fun c => ?_) (fun c => ?_)
          · replace h := ya_itef h c
            exact hk139 _ h
          · replace h := ya_itet h c
            refine ya_iload 8 rfl dX11_ordersWithAll_72 ?_
            obtain ⟨x74, e74, h⟩ := ya_ob h
            refine ya_callSi (S := []) (c_J6_bitCount_0f7a4 hG e74) m_J6_bitCount_0f7a4 ⟨rfl, rfl⟩ ml_X11_374 rfl ⟨Nat.le_of_ble_eq_true rfl, Nat.le_of_ble_eq_true rfl⟩ (Nat.le_of_ble_eq_true rfl) ⟨Nat.le_refl _, Nat.le_refl _⟩ dX11_ordersWithAll_74 rfl ?_
            refine ya_istore [(10, .int x74), (1, .int v1), (2, .int v2), (3, .int v3), (4, .int v4), (5, .ref (X.2.1 + 35)), (6, .int v6), (7, .int v7), (8, .int v8), (9, .int v9)] (by decide) rfl dX11_ordersWithAll_77 ?_
            refine ya_aload 5 rfl dX11_ordersWithAll_79 ?_
            refine ya_iload 9 rfl dX11_ordersWithAll_81 ?_
            obtain ⟨x83, e83, h⟩ := ya_ob h
            refine ya_callVi (S := []) (c_X1_wantsOf hG (bk_0_35 hG) e83) m_X1_wantsOf ⟨rfl, rfl⟩ ml_X11_379 rfl ⟨Nat.le_of_ble_eq_true rfl, Nat.le_of_ble_eq_true rfl⟩ (Nat.le_of_ble_eq_true rfl) (hG.lt0 35 (by decide)) (hG.o0 35 rfl) (by decide) rfl rfl ⟨Nat.le_refl _, Nat.le_refl _⟩ dX11_ordersWithAll_83 rfl ?_
            refine ya_aload 5 rfl dX11_ordersWithAll_86 ?_
            refine ya_getR fo_X11_382 (hG.o0 35 rfl) (hG.lt0 35 (by decide)) (hG.l0 34 rfl) dX11_ordersWithAll_88 ?_
            refine ya_iload_n 1 rfl dX11_ordersWithAll_91 ?_
            refine ya_iald (hG.s0 37 rfl) (hG.lt0 37 (by decide)) dX11_ordersWithAll_92 h (fun x92 h => ?_)
            refine ya_iadd dX11_ordersWithAll_93 ?_
            refine ya_iload 4 rfl dX11_ordersWithAll_94 ?_
            refine ya_j1_s h (fun t0_104 => ya_E X Y_X11_ordersWithAll (ya_M X (some (.int rr), G, d) 0 0) 104 [(1, .int v1), (2, .int v2), (3, .int v3), (4, .int v4), (5, .ref (X.2.1 + 35)), (6, .int v6), (7, .int v7), (8, .int v8), (9, .int v9), (10, .int x74)] [.int t0_104] G d 0 0) (fun t0_104 h => ?_) (fun k104 hk104 h => ?_)
            · refine ya_istore [(11, .int t0_104), (1, .int v1), (2, .int v2), (3, .int v3), (4, .int v4), (5, .ref (X.2.1 + 35)), (6, .int v6), (7, .int v7), (8, .int v8), (9, .int v9), (10, .int x74)] (by decide) rfl dX11_ordersWithAll_104 ?_
              refine ya_iload 0 rfl dX11_ordersWithAll_106 ?_
              refine ya_ifeq 139 (by decide) dX11_ordersWithAll_108 (fun c => ?_) (fun c => ?_)
              · replace h := ya_itet h c
                refine ya_sub [(1, .int v1), (2, .int v2), (3, .int v3), (4, .int v4), (5, .ref (X.2.1 + 35)), (6, .int v6), (7, .int v7), (8, .int v8), (9, .int v9)] [1, 2, 3, 4, 5, 6, 7, 8, 9] rfl ?_
                exact hk139 _ h
              · replace h := ya_itef h c
                refine ya_iload 10 rfl dX11_ordersWithAll_111 ?_
                refine ya_iload 7 rfl dX11_ordersWithAll_113 ?_
                refine ya_icmp_gt 139 (by decide) dX11_ordersWithAll_115 (fun c => ?_) (fun c => ?_)
                · replace h := ya_itet h c
                  refine ya_sub [(1, .int v1), (2, .int v2), (3, .int v3), (4, .int v4), (5, .ref (X.2.1 + 35)), (6, .int v6), (7, .int v7), (8, .int v8), (9, .int v9)] [1, 2, 3, 4, 5, 6, 7, 8, 9] rfl ?_
                  exact hk139 _ h
                · replace h := ya_itef h c
                  refine ya_iload 8 rfl dX11_ordersWithAll_118 ?_
                  refine ya_fgets kf_X11_228 dX11_ordersWithAll_120 ?_
                  refine ya_iload 10 rfl dX11_ordersWithAll_123 ?_
                  refine ya_fald dX11_ordersWithAll_125 h (fun x125 h => ?_)
                  refine ya_fgets kf_X11_228 dX11_ordersWithAll_126 ?_
                  refine ya_iload 7 rfl dX11_ordersWithAll_129 ?_
                  refine ya_iload 10 rfl dX11_ordersWithAll_131 ?_
                  refine ya_isub dX11_ordersWithAll_133 ?_
                  refine ya_fald dX11_ordersWithAll_134 h (fun x134 h => ?_)
                  refine ya_imul dX11_ordersWithAll_135 ?_
                  refine ya_iadd dX11_ordersWithAll_136 ?_
                  refine ya_istore [(8, .int (v8 + (x125 * x134))), (11, .int t0_104), (1, .int v1), (2, .int v2), (3, .int v3), (4, .int v4), (5, .ref (X.2.1 + 35)), (6, .int v6), (7, .int v7), (9, .int v9), (10, .int x74)] (by decide) rfl dX11_ordersWithAll_137 ?_
                  refine ya_sub [(1, .int v1), (2, .int v2), (3, .int v3), (4, .int v4), (5, .ref (X.2.1 + 35)), (6, .int v6), (7, .int v7), (8, .int (v8 + (x125 * x134))), (9, .int v9)] [2, 3, 4, 5, 6, 7, 8, 0, 9] rfl ?_
                  exact hk139 _ h
            · refine ya_icmp_gt 103 (by decide) dX11_ordersWithAll_96 (fun c => ?_) (fun c => ?_)
              · replace h := ya_itet h c
                refine ya_iconst 0 (by decide) dX11_ordersWithAll_103 ?_
                refine ya_sub [(1, .int v1), (2, .int v2), (3, .int v3), (4, .int v4), (5, .ref (X.2.1 + 35)), (6, .int v6), (7, .int v7), (8, .int v8), (9, .int v9), (10, .int x74)] [1, 2, 3, 4, 5, 6, 7, 8, 9, 0] rfl ?_
                exact hk104 _ h
              · replace h := ya_itef h c
                refine ya_iconst 1 (by decide) dX11_ordersWithAll_99 ?_
                refine ya_goto 104 (by decide) dX11_ordersWithAll_100 ?_
                refine ya_sub [(1, .int v1), (2, .int v2), (3, .int v3), (4, .int v4), (5, .ref (X.2.1 + 35)), (6, .int v6), (7, .int v7), (8, .int v8), (9, .int v9), (10, .int x74)] [1, 2, 3, 4, 5, 6, 7, 8, 9, 0] rfl ?_
                exact hk104 _ h
set_option maxRecDepth 20000 in
theorem c_X11_ordersWithAll {X : ya_X} {G : ya_G} {v1 : Int32} {v2 : Int32} {v3 : Int32} {v4 : Int32} {d : ya_D} {rr : Int32} (hG : ya_Bk ya_sh ya_ln G 0) (h : f_X11_ordersWithAll v1 v2 v3 v4 d = some rr) : ya_Ct X yX11_ordersWithAll Y_X11_ordersWithAll [.ref (X.2.1 + 0), .int v1, .int v2, .int v3, .int v4] G d (some (.int rr), G, d) := by
  refine ya_ct (by decide +kernel) rfl rfl (Nat.le_of_ble_eq_true rfl) ?_
  unfold f_X11_ordersWithAll at h
  show ya_E X Y_X11_ordersWithAll (ya_M X (some (.int rr), G, d) 0 0) 0 [(0, .ref (X.2.1 + 0)), (1, .int v1), (2, .int v2), (3, .int v3), (4, .int v4)] [] G d 0 0
  refine ya_aload_n 0 rfl dX11_ordersWithAll_0 ?_
  refine ya_getR fo_X11_26 (hG.o0 0 rfl) (hG.lt0 0 (by decide)) (hG.l0 40 rfl) dX11_ordersWithAll_1 ?_
  refine ya_getR fo_X11_168 (hG.o0 24 rfl) (hG.lt0 24 (by decide)) (hG.l0 39 rfl) dX11_ordersWithAll_4 ?_
  refine ya_astore [(5, .ref (X.2.1 + 35)), (0, .ref (X.2.1 + 0)), (1, .int v1), (2, .int v2), (3, .int v3), (4, .int v4)] (by decide) rfl dX11_ordersWithAll_7 ?_
  refine ya_aload 0 rfl dX11_ordersWithAll_9 ?_
  refine ya_getR fo_X11_217 (hG.o0 35 rfl) (hG.lt0 35 (by decide)) (hG.l0 33 rfl) dX11_ordersWithAll_11 ?_
  refine ya_iload_n 2 rfl dX11_ordersWithAll_14 ?_
  refine ya_iald (hG.s0 36 rfl) (hG.lt0 36 (by decide)) dX11_ordersWithAll_15 h (fun x15 h => ?_)
  refine ya_istore [(6, .int x15), (5, .ref (X.2.1 + 35)), (0, .ref (X.2.1 + 0)), (1, .int v1), (2, .int v2), (3, .int v3), (4, .int v4)] (by decide) rfl dX11_ordersWithAll_16 ?_
  refine ya_aload 1 rfl dX11_ordersWithAll_18 ?_
  refine ya_iload 0 rfl dX11_ordersWithAll_20 ?_
  refine ya_iload_n 4 rfl dX11_ordersWithAll_22 ?_
  refine ya_iload_n 5 rfl dX11_ordersWithAll_23 ?_
  obtain ⟨x24, e24, h⟩ := ya_ob h
  refine ya_callVi (S := []) (c_X1_countComing hG (bk_0_35 hG) e24) m_X1_countComing ⟨rfl, rfl⟩ ml_X11_231 rfl ⟨Nat.le_of_ble_eq_true rfl, Nat.le_of_ble_eq_true rfl⟩ (Nat.le_of_ble_eq_true rfl) (hG.lt0 35 (by decide)) (hG.o0 35 rfl) (by decide) rfl rfl ⟨Nat.le_refl _, Nat.le_refl _⟩ dX11_ordersWithAll_24 rfl ?_
  refine ya_iconst 1 (by decide) dX11_ordersWithAll_27 ?_
  refine ya_isub dX11_ordersWithAll_28 ?_
  refine ya_istore [(7, .int (x24 - 1)), (6, .int x15), (5, .ref (X.2.1 + 35)), (0, .ref (X.2.1 + 0)), (1, .int v1), (2, .int v2), (3, .int v3), (4, .int v4)] (by decide) rfl dX11_ordersWithAll_29 ?_
  refine ya_iconst 0 (by decide) dX11_ordersWithAll_31 ?_
  refine ya_istore [(8, .int 0), (7, .int (x24 - 1)), (6, .int x15), (5, .ref (X.2.1 + 35)), (0, .ref (X.2.1 + 0)), (1, .int v1), (2, .int v2), (3, .int v3), (4, .int v4)] (by decide) rfl dX11_ordersWithAll_32 ?_
  refine ya_iconst 0 (by decide) dX11_ordersWithAll_34 ?_
  refine ya_istore [(9, .int 0), (8, .int 0), (7, .int (x24 - 1)), (6, .int x15), (5, .ref (X.2.1 + 35)), (0, .ref (X.2.1 + 0)), (1, .int v1), (2, .int v2), (3, .int v3), (4, .int v4)] (by decide) rfl dX11_ordersWithAll_35 ?_
  refine ya_sub [(1, .int v1), (2, .int v2), (3, .int v3), (4, .int v4), (5, .ref (X.2.1 + 35)), (6, .int x15), (7, .int (x24 - 1)), (8, .int 0), (9, .int 0)] [6, 7, 8, 9, 4, 3, 2, 1, 0] rfl ?_
  refine w_X11_ordersWithAll_L37 hG  ya_F _ _ h
set_option maxRecDepth 20000 in
theorem w_X11_commonDivisor_L7 {X : ya_X} {G : ya_G} {d : ya_D} {rr : Int32} (hG : ya_Bk ya_sh ya_ln G 0) : ∀ (n : Nat) (v2 : Int32) (v3 : Int32) (v4 : Int32), f_X11_commonDivisor_L7  n v2 v3 v4 = some rr → ya_E X Y_X11_commonDivisor (ya_M X (some (.int rr), G, d) 0 0) 7 [(2, .int v2), (3, .int v3), (4, .int v4)] [] G d 0 0 := by
  intro n
  induction n with
  | zero => intro v2 v3 v4 h; cases h
  | succ n ih =>
    intro v2 v3 v4 h
    rw [f_X11_commonDivisor_L7] at h
    refine ya_iload 2 rfl dX11_commonDivisor_7 ?_
    refine ya_bipush 100 (by decide) dX11_commonDivisor_9 ?_
    refine ya_icmp_ge 34 (by decide) dX11_commonDivisor_11 (fun c => ?_) (fun c => ?_)
    · replace h := ya_itet h c
      refine ya_iload_n 0 rfl dX11_commonDivisor_34 ?_
      cases h
      exact ya_iret rfl rfl rfl rfl rfl (Nat.le_refl _) dX11_commonDivisor_35
    · replace h := ya_itef h c
      refine ya_iload_n 1 rfl dX11_commonDivisor_14 ?_
      refine ya_ifeq 34 (by decide) dX11_commonDivisor_15 (fun c => ?_) (fun c => ?_)
      · replace h := ya_itet h c
        refine ya_iload_n 0 rfl dX11_commonDivisor_34 ?_
        cases h
        exact ya_iret rfl rfl rfl rfl rfl (Nat.le_refl _) dX11_commonDivisor_35
      · replace h := ya_itef h c
        refine ya_iload_n 0 rfl dX11_commonDivisor_18 ?_
        refine ya_iload_n 1 rfl dX11_commonDivisor_19 ?_
        refine ya_iremb dX11_commonDivisor_20 h (fun x20 h => ?_)
        refine ya_istore [(5, .int x20), (2, .int v2), (3, .int v3), (4, .int v4)] (by decide) rfl dX11_commonDivisor_21 ?_
        refine ya_iload_n 2 rfl dX11_commonDivisor_23 ?_
        refine ya_istore_n [(2, .int v3), (5, .int x20), (3, .int v3), (4, .int v4)] (by decide) rfl dX11_commonDivisor_24 ?_
        refine ya_iload 1 rfl dX11_commonDivisor_25 ?_
        refine ya_istore_n [(3, .int x20), (2, .int v3), (5, .int x20), (4, .int v4)] (by decide) rfl dX11_commonDivisor_27 ?_
        refine ya_iinc (v4 + 1) rfl 3 rfl [(4, .int (v4 + 1)), (3, .int x20), (2, .int v3), (5, .int x20)] (by decide) rfl dX11_commonDivisor_28 ?_
        refine ya_goto 7 (by decide) dX11_commonDivisor_31 ?_
        refine ya_sub [(2, .int v3), (3, .int x20), (4, .int (v4 + 1))] [2, 1, 0] rfl ?_
        exact ih _ _ _ h
set_option maxRecDepth 20000 in
theorem c_X11_commonDivisor {X : ya_X} {G : ya_G} {v0 : Int32} {v1 : Int32} {d : ya_D} {rr : Int32} (hG : ya_Bk ya_sh ya_ln G 0) (h : f_X11_commonDivisor v0 v1 = some rr) : ya_Ct X yX11_commonDivisor Y_X11_commonDivisor [.int v0, .int v1] G d (some (.int rr), G, d) := by
  refine ya_ct (by decide +kernel) rfl rfl (Nat.le_of_ble_eq_true rfl) ?_
  unfold f_X11_commonDivisor at h
  show ya_E X Y_X11_commonDivisor (ya_M X (some (.int rr), G, d) 0 0) 0 [(0, .int v0), (1, .int v1)] [] G d 0 0
  refine ya_iload_n 0 rfl dX11_commonDivisor_0 ?_
  refine ya_istore_n [(2, .int v0), (0, .int v0), (1, .int v1)] (by decide) rfl dX11_commonDivisor_1 ?_
  refine ya_iload_n 2 rfl dX11_commonDivisor_2 ?_
  refine ya_istore_n [(3, .int v1), (2, .int v0), (0, .int v0), (1, .int v1)] (by decide) rfl dX11_commonDivisor_3 ?_
  refine ya_iconst 0 (by decide) dX11_commonDivisor_4 ?_
  refine ya_istore [(4, .int 0), (3, .int v1), (2, .int v0), (0, .int v0), (1, .int v1)] (by decide) rfl dX11_commonDivisor_5 ?_
  refine ya_sub [(2, .int v0), (3, .int v1), (4, .int 0)] [2, 1, 0] rfl ?_
  refine w_X11_commonDivisor_L7 hG  ya_F _ _ _ h
set_option maxRecDepth 20000 in
theorem c_X11_chance {X : ya_X} {G : ya_G} {v1 : Int32} {v2 : Int32} {v3 : Int32} {d : ya_D} {rr : (Int32 × ya_D)} (hG : ya_Bk ya_sh ya_ln G 0) (h : f_X11_chance v1 v2 v3 d = some rr) : ya_Ct X yX11_chance Y_X11_chance [.ref (X.2.1 + 0), .int v1, .int v2, .int v3] G d (some (.int rr.1), G, rr.2) := by
  refine ya_ct (by decide +kernel) rfl rfl (Nat.le_of_ble_eq_true rfl) ?_
  unfold f_X11_chance at h
  show ya_E X Y_X11_chance (ya_M X (some (.int rr.1), G, rr.2) 0 0) 0 [(0, .ref (X.2.1 + 0)), (1, .int v1), (2, .int v2), (3, .int v3)] [] G d 0 0
  refine ya_aload_n 0 rfl dX11_chance_0 ?_
  refine ya_iload_n 1 rfl dX11_chance_1 ?_
  obtain ⟨x2, e2, h⟩ := ya_ob h
  refine ya_callVi (S := []) (c_X11_isBuyer hG e2) m_X11_isBuyer ⟨rfl, rfl⟩ ml_X11_159 rfl ⟨Nat.le_of_ble_eq_true rfl, Nat.le_of_ble_eq_true rfl⟩ (Nat.le_of_ble_eq_true rfl) (hG.lt0 0 (by decide)) (hG.o0 0 rfl) (by decide) rfl rfl ⟨Nat.le_refl _, Nat.le_refl _⟩ dX11_chance_2 rfl ?_
  refine ya_j0_s h (ya_E X Y_X11_chance (ya_M X (some (.int rr.1), G, rr.2) 0 0) 25 [] [] G d 0 0) (fun h => ?_) (fun k25 hk25 h => ?_)
  · refine ya_bipush (-2) (by decide) dX11_chance_25 ?_
    cases h
    exact ya_iret rfl rfl rfl rfl rfl (Nat.le_refl _) dX11_chance_27
  · refine ya_ifeq 25 (by decide) dX11_chance_5 (fun c => ?_) (fun c => ?_)
    · replace h := ya_itet h c
      refine ya_sub [] [] rfl ?_
      exact hk25  h
    · replace h := ya_itef h c
      refine ya_aload_n 0 rfl dX11_chance_8 ?_
      refine ya_iload_n 2 rfl dX11_chance_9 ?_
      obtain ⟨x10, e10, h⟩ := ya_ob h
      refine ya_callVi (S := []) (c_X11_isDay hG e10) m_X11_isDay ⟨rfl, rfl⟩ ml_X11_150 rfl ⟨Nat.le_of_ble_eq_true rfl, Nat.le_of_ble_eq_true rfl⟩ (Nat.le_of_ble_eq_true rfl) (hG.lt0 0 (by decide)) (hG.o0 0 rfl) (by decide) rfl rfl ⟨Nat.le_refl _, Nat.le_refl _⟩ dX11_chance_10 rfl ?_
      refine ya_ifeq 25 (by decide) dX11_chance_13 (fun c => ?_) (fun c => ?_)
      · replace h := ya_itet h c
        refine ya_sub [] [] rfl ?_
        exact hk25  h
      · replace h := ya_itef h c
        refine ya_iload_n 3 rfl dX11_chance_16 ?_
        refine ya_iconst 0 (by decide) dX11_chance_17 ?_
        refine ya_iconst 1 (by decide) dX11_chance_18 ?_
        obtain ⟨x19, e19, h⟩ := ya_ob h
        refine ya_callSi (S := []) (c_X11_within hG e19) m_X11_within ⟨rfl, rfl⟩ ml_X11_213 rfl ⟨Nat.le_of_ble_eq_true rfl, Nat.le_of_ble_eq_true rfl⟩ (Nat.le_of_ble_eq_true rfl) ⟨Nat.le_refl _, Nat.le_refl _⟩ dX11_chance_19 rfl ?_
        refine ya_ifne 28 (by decide) dX11_chance_22 (fun c => ?_) (fun c => ?_)
        · replace h := ya_itef h c
          refine ya_aload_n 0 rfl dX11_chance_28 ?_
          refine ya_getR fo_X11_26 (hG.o0 0 rfl) (hG.lt0 0 (by decide)) (hG.l0 40 rfl) dX11_chance_29 ?_
          refine ya_getR fo_X11_168 (hG.o0 24 rfl) (hG.lt0 24 (by decide)) (hG.l0 39 rfl) dX11_chance_32 ?_
          refine ya_getR fo_X11_217 (hG.o0 35 rfl) (hG.lt0 35 (by decide)) (hG.l0 33 rfl) dX11_chance_35 ?_
          refine ya_iload_n 1 rfl dX11_chance_38 ?_
          refine ya_iald (hG.s0 36 rfl) (hG.lt0 36 (by decide)) dX11_chance_39 h (fun x39 h => ?_)
          refine ya_istore [(4, .int x39), (0, .ref (X.2.1 + 0)), (1, .int v1), (2, .int v2), (3, .int v3)] (by decide) rfl dX11_chance_40 ?_
          refine ya_iload 0 rfl dX11_chance_42 ?_
          refine ya_iload_n 3 rfl dX11_chance_44 ?_
          obtain ⟨x45, e45, h⟩ := ya_ob h
          refine ya_callSi (S := []) (c_X11_cell hG e45) m_X11_cell ⟨rfl, rfl⟩ ml_X11_110 rfl ⟨Nat.le_of_ble_eq_true rfl, Nat.le_of_ble_eq_true rfl⟩ (Nat.le_of_ble_eq_true rfl) ⟨Nat.le_refl _, Nat.le_refl _⟩ dX11_chance_45 rfl ?_
          refine ya_istore [(5, .int x45), (4, .int x39), (0, .ref (X.2.1 + 0)), (1, .int v1), (2, .int v2), (3, .int v3)] (by decide) rfl dX11_chance_48 ?_
          refine ya_aload_n 2 rfl dX11_chance_50 ?_
          refine ya_getR fo_X11_26 (hG.o0 0 rfl) (hG.lt0 0 (by decide)) (hG.l0 40 rfl) dX11_chance_51 ?_
          refine ya_getR fo_X11_100 (hG.o0 24 rfl) (hG.lt0 24 (by decide)) (hG.l0 27 rfl) dX11_chance_54 ?_
          refine ya_getR fo_X11_104 (hG.o0 25 rfl) (hG.lt0 25 (by decide)) (hG.l0 24 rfl) dX11_chance_57 ?_
          refine ya_iload 0 rfl dX11_chance_60 ?_
          refine ya_iald (hG.s0 27 rfl) (hG.lt0 27 (by decide)) dX11_chance_62 h (fun x62 h => ?_)
          refine ya_istore [(6, .int x62), (5, .int x45), (4, .int x39), (0, .ref (X.2.1 + 0)), (1, .int v1), (2, .int v2), (3, .int v3)] (by decide) rfl dX11_chance_63 ?_
          refine ya_iconst 0 (by decide) dX11_chance_65 ?_
          refine ya_istore [(7, .int 0), (6, .int x62), (5, .int x45), (4, .int x39), (0, .ref (X.2.1 + 0)), (1, .int v1), (2, .int v2), (3, .int v3)] (by decide) rfl dX11_chance_66 ?_
          refine ya_iconst 1 (by decide) dX11_chance_68 ?_
          refine ya_istore [(8, .int 1), (7, .int 0), (6, .int x62), (5, .int x45), (4, .int x39), (0, .ref (X.2.1 + 0)), (1, .int v1), (2, .int v2), (3, .int v3)] (by decide) rfl dX11_chance_69 ?_
          refine ya_aload_n 5 rfl dX11_chance_71 ?_
          refine ya_getR fo_X11_26 (hG.o0 0 rfl) (hG.lt0 0 (by decide)) (hG.l0 40 rfl) dX11_chance_72 ?_
          refine ya_getR fo_X11_168 (hG.o0 24 rfl) (hG.lt0 24 (by decide)) (hG.l0 39 rfl) dX11_chance_75 ?_
          refine ya_iload_n 6 rfl dX11_chance_78 ?_
          refine ya_iload 4 rfl dX11_chance_79 ?_
          refine ya_iload_n 7 rfl dX11_chance_81 ?_
          refine ya_iload 2 rfl dX11_chance_82 ?_
          obtain ⟨x84, e84, h⟩ := ya_ob h
          refine ya_callVi (S := []) (c_X1_comes hG (bk_0_35 hG) e84) m_X1_comes ⟨rfl, rfl⟩ ml_X11_220 rfl ⟨Nat.le_of_ble_eq_true rfl, Nat.le_of_ble_eq_true rfl⟩ (Nat.le_of_ble_eq_true rfl) (hG.lt0 35 (by decide)) (hG.o0 35 rfl) (by decide) rfl rfl ⟨Nat.le_refl _, Nat.le_refl _⟩ dX11_chance_84 rfl ?_
          refine ya_j3_s h (fun v7_135 v8_135 d_135 => ya_E X Y_X11_chance (ya_M X (some (.int rr.1), G, rr.2) 0 0) 135 [(3, .int v3), (7, .int v7_135), (8, .int v8_135)] [] G d_135 0 0) (fun v7_135 v8_135 d_135 h => ?_) (fun k135 hk135 h => ?_)
          · refine ya_iload 1 rfl dX11_chance_135 ?_
            refine ya_iload 2 rfl dX11_chance_137 ?_
            obtain ⟨x139, e139, h⟩ := ya_ob h
            refine ya_callSi (S := []) (c_X11_commonDivisor hG e139) m_X11_commonDivisor ⟨rfl, rfl⟩ ml_X11_234 rfl ⟨Nat.le_of_ble_eq_true rfl, Nat.le_of_ble_eq_true rfl⟩ (Nat.le_of_ble_eq_true rfl) ⟨Nat.le_refl _, Nat.le_refl _⟩ dX11_chance_139 rfl ?_
            refine ya_istore [(9, .int x139), (3, .int v3), (7, .int v7_135), (8, .int v8_135)] (by decide) rfl dX11_chance_142 ?_
            refine ya_iload_n 1 rfl dX11_chance_144 ?_
            refine ya_j1_s h (fun t0_155 => ya_E X Y_X11_chance (ya_M X (some (.int rr.1), G, rr.2) 0 0) 155 [(9, .int x139)] [.int t0_155] G d_135 0 0) (fun t0_155 h => ?_) (fun k155 hk155 h => ?_)
            · refine ya_istore [(10, .int t0_155), (9, .int x139)] (by decide) rfl dX11_chance_155 ?_
              refine ya_iload 1 rfl dX11_chance_157 ?_
              refine ya_ifle 170 (by decide) dX11_chance_159 (fun c => ?_) (fun c => ?_)
              · replace h := ya_itet h c
                refine ya_iload 0 rfl dX11_chance_170 ?_
                cases h
                exact ya_iret rfl rfl rfl rfl rfl (Nat.le_refl _) dX11_chance_172
              · replace h := ya_itef h c
                refine ya_iload 0 rfl dX11_chance_162 ?_
                refine ya_iload 1 rfl dX11_chance_164 ?_
                refine ya_idivb dX11_chance_166 h (fun x166 h => ?_)
                refine ya_goto 172 (by decide) dX11_chance_167 ?_
                cases h
                exact ya_iret rfl rfl rfl rfl rfl (Nat.le_refl _) dX11_chance_172
            · refine ya_ifne 153 (by decide) dX11_chance_145 (fun c => ?_) (fun c => ?_)
              · replace h := ya_itef h c
                refine ya_iload 3 rfl dX11_chance_153 ?_
                refine ya_sub [(9, .int x139)] [0] rfl ?_
                exact hk155 _ h
              · replace h := ya_itet h c
                refine ya_iload 2 rfl dX11_chance_148 ?_
                refine ya_goto 155 (by decide) dX11_chance_150 ?_
                refine ya_sub [(9, .int x139)] [0] rfl ?_
                exact hk155 _ h
          · refine ya_ifeq 135 (by decide) dX11_chance_87 (fun c => ?_) (fun c => ?_)
            · replace h := ya_itet h c
              refine ya_sub [(3, .int v3), (7, .int 0), (8, .int 1)] [8, 1, 0] rfl ?_
              exact hk135 _ _ _ h
            · replace h := ya_itef h c
              refine ya_aload_n 5 rfl dX11_chance_90 ?_
              obtain ⟨d91, e91, h⟩ := ya_ob h
              refine ya_callVa (S := []) (c_X11_thisYear hG e91) m_X11_thisYear ⟨rfl, rfl⟩ ml_X11_117 rfl ⟨Nat.le_of_ble_eq_true rfl, Nat.le_of_ble_eq_true rfl⟩ (Nat.le_of_ble_eq_true rfl) (hG.lt0 0 (by decide)) (hG.o0 0 rfl) (by decide) rfl rfl ⟨Nat.le_refl _, Nat.le_refl _⟩ dX11_chance_91 rfl ?_
              refine ya_getR fo_X11_121 (hG.o0 42 rfl) (hG.lt0 42 (by decide)) (hG.l0 41 rfl) dX11_chance_94 ?_
              refine ya_iload 3 rfl dX11_chance_97 ?_
              refine ya_iald (hG.s0 43 rfl) (hG.lt0 43 (by decide)) dX11_chance_99 h (fun x99 h => ?_)
              refine ya_istore [(9, .int x99), (8, .int 1), (7, .int 0), (6, .int x62), (5, .int x45), (4, .int x39), (0, .ref (X.2.1 + 0)), (1, .int v1), (2, .int v2), (3, .int v3)] (by decide) rfl dX11_chance_100 ?_
              refine ya_aload_n 6 rfl dX11_chance_102 ?_
              refine ya_iload_n 7 rfl dX11_chance_103 ?_
              refine ya_iload_n 8 rfl dX11_chance_104 ?_
              refine ya_iload 3 rfl dX11_chance_105 ?_
              refine ya_iload 0 rfl dX11_chance_107 ?_
              obtain ⟨x109, e109, h⟩ := ya_ob h
              refine ya_callVi (S := []) (c_X11_ordersWithAll hG e109) m_X11_ordersWithAll ⟨rfl, rfl⟩ ml_X11_224 rfl ⟨Nat.le_of_ble_eq_true rfl, Nat.le_of_ble_eq_true rfl⟩ (Nat.le_of_ble_eq_true rfl) (hG.lt0 0 (by decide)) (hG.o0 0 rfl) (by decide) rfl rfl ⟨Nat.le_refl _, Nat.le_refl _⟩ dX11_chance_109 rfl ?_
              refine ya_istore [(7, .int x109), (9, .int x99), (8, .int 1), (6, .int x62), (5, .int x45), (4, .int x39), (0, .ref (X.2.1 + 0)), (1, .int v1), (2, .int v2), (3, .int v3)] (by decide) rfl dX11_chance_112 ?_
              refine ya_fgets kf_X11_228 dX11_chance_114 ?_
              refine ya_aload_n 6 rfl dX11_chance_117 ?_
              refine ya_getR fo_X11_26 (hG.o0 0 rfl) (hG.lt0 0 (by decide)) (hG.l0 40 rfl) dX11_chance_118 ?_
              refine ya_getR fo_X11_168 (hG.o0 24 rfl) (hG.lt0 24 (by decide)) (hG.l0 39 rfl) dX11_chance_121 ?_
              refine ya_iload 5 rfl dX11_chance_124 ?_
              refine ya_iload_n 8 rfl dX11_chance_126 ?_
              refine ya_iload 3 rfl dX11_chance_127 ?_
              obtain ⟨x129, e129, h⟩ := ya_ob h
              refine ya_callVi (S := [.ref X.2.2.2.2.2.2.2.2]) (c_X1_countComing hG (bk_0_35 hG) e129) m_X1_countComing ⟨rfl, rfl⟩ ml_X11_231 rfl ⟨Nat.le_of_ble_eq_true rfl, Nat.le_of_ble_eq_true rfl⟩ (Nat.le_of_ble_eq_true rfl) (hG.lt0 35 (by decide)) (hG.o0 35 rfl) (by decide) rfl rfl ⟨Nat.le_refl _, Nat.le_refl _⟩ dX11_chance_129 rfl ?_
              refine ya_fald dX11_chance_132 h (fun x132 h => ?_)
              refine ya_istore [(8, .int x132), (7, .int x109), (9, .int x99), (6, .int x62), (5, .int x45), (4, .int x39), (0, .ref (X.2.1 + 0)), (1, .int v1), (2, .int v2), (3, .int v3)] (by decide) rfl dX11_chance_133 ?_
              refine ya_sub [(3, .int v3), (7, .int x109), (8, .int x132)] [9, 1, 0] rfl ?_
              exact hk135 _ _ _ h
        · replace h := ya_itet h c
          refine ya_sub [] [] rfl ?_
          exact hk25  h
set_option maxRecDepth 20000 in
theorem w_X11_costsSomeDay_L2 {X : ya_X} {G : ya_G} {v1 : Int32} {v2 : Int32} {d : ya_D} {rr : Int32} (hG : ya_Bk ya_sh ya_ln G 0) : ∀ (n : Nat) (v3 : Int32), f_X11_costsSomeDay_L2 v1 v2 d n v3 = some rr → ya_E X Y_X11_costsSomeDay (ya_M X (some (.int rr), G, d) 0 0) 2 [(0, .ref (X.2.1 + 0)), (1, .int v1), (2, .int v2), (3, .int v3)] [] G d 0 0 := by
  intro n
  induction n with
  | zero => intro v3 h; cases h
  | succ n ih =>
    intro v3 h
    rw [f_X11_costsSomeDay_L2] at h
    refine ya_iload_n 3 rfl dX11_costsSomeDay_2 ?_
    refine ya_aload_n 0 rfl dX11_costsSomeDay_3 ?_
    refine ya_getR fo_X11_26 (hG.o0 0 rfl) (hG.lt0 0 (by decide)) (hG.l0 40 rfl) dX11_costsSomeDay_4 ?_
    refine ya_getI fo_X11_192 (hG.o0 24 rfl) (hG.lt0 24 (by decide)) dX11_costsSomeDay_7 ?_
    refine ya_icmp_ge 41 (by decide) dX11_costsSomeDay_10 (fun c => ?_) (fun c => ?_)
    · replace h := ya_itet h c
      refine ya_iconst 0 (by decide) dX11_costsSomeDay_41 ?_
      cases h
      exact ya_zret .boolean rfl rfl rfl rfl (by decide) rfl (Nat.le_refl _) dX11_costsSomeDay_42
    · replace h := ya_itef h c
      refine ya_aload_n 0 rfl dX11_costsSomeDay_13 ?_
      refine ya_getR fo_X11_26 (hG.o0 0 rfl) (hG.lt0 0 (by decide)) (hG.l0 40 rfl) dX11_costsSomeDay_14 ?_
      refine ya_getR fo_X11_100 (hG.o0 24 rfl) (hG.lt0 24 (by decide)) (hG.l0 27 rfl) dX11_costsSomeDay_17 ?_
      refine ya_getR fo_X11_104 (hG.o0 25 rfl) (hG.lt0 25 (by decide)) (hG.l0 24 rfl) dX11_costsSomeDay_20 ?_
      refine ya_iload_n 1 rfl dX11_costsSomeDay_23 ?_
      refine ya_iload_n 3 rfl dX11_costsSomeDay_24 ?_
      obtain ⟨x25, e25, h⟩ := ya_ob h
      refine ya_callSi (S := [.ref (X.2.1 + 27)]) (c_X11_cell hG e25) m_X11_cell ⟨rfl, rfl⟩ ml_X11_110 rfl ⟨Nat.le_of_ble_eq_true rfl, Nat.le_of_ble_eq_true rfl⟩ (Nat.le_of_ble_eq_true rfl) ⟨Nat.le_refl _, Nat.le_refl _⟩ dX11_costsSomeDay_25 rfl ?_
      refine ya_iald (hG.s0 27 rfl) (hG.lt0 27 (by decide)) dX11_costsSomeDay_28 h (fun x28 h => ?_)
      refine ya_iload_n 2 rfl dX11_costsSomeDay_29 ?_
      refine ya_icmp_ne 35 (by decide) dX11_costsSomeDay_30 (fun c => ?_) (fun c => ?_)
      · replace h := ya_itef h c
        refine ya_iinc (v3 + 1) rfl 3 rfl [(3, .int (v3 + 1)), (0, .ref (X.2.1 + 0)), (1, .int v1), (2, .int v2)] (by decide) rfl dX11_costsSomeDay_35 ?_
        refine ya_goto 2 (by decide) dX11_costsSomeDay_38 ?_
        refine ya_sub [(0, .ref (X.2.1 + 0)), (1, .int v1), (2, .int v2), (3, .int (v3 + 1))] [1, 2, 3, 0] rfl ?_
        exact ih _ h
      · replace h := ya_itet h c
        refine ya_iconst 1 (by decide) dX11_costsSomeDay_33 ?_
        cases h
        exact ya_zret .boolean rfl rfl rfl rfl (by decide) rfl (Nat.le_refl _) dX11_costsSomeDay_34
set_option maxRecDepth 20000 in
theorem c_X11_costsSomeDay {X : ya_X} {G : ya_G} {v1 : Int32} {v2 : Int32} {d : ya_D} {rr : Int32} (hG : ya_Bk ya_sh ya_ln G 0) (h : f_X11_costsSomeDay v1 v2 d = some rr) : ya_Ct X yX11_costsSomeDay Y_X11_costsSomeDay [.ref (X.2.1 + 0), .int v1, .int v2] G d (some (.int rr), G, d) := by
  refine ya_ct (by decide +kernel) rfl rfl (Nat.le_of_ble_eq_true rfl) ?_
  unfold f_X11_costsSomeDay at h
  show ya_E X Y_X11_costsSomeDay (ya_M X (some (.int rr), G, d) 0 0) 0 [(0, .ref (X.2.1 + 0)), (1, .int v1), (2, .int v2)] [] G d 0 0
  refine ya_iconst 0 (by decide) dX11_costsSomeDay_0 ?_
  refine ya_istore_n [(3, .int 0), (0, .ref (X.2.1 + 0)), (1, .int v1), (2, .int v2)] (by decide) rfl dX11_costsSomeDay_1 ?_
  refine ya_sub [(0, .ref (X.2.1 + 0)), (1, .int v1), (2, .int v2), (3, .int 0)] [1, 2, 3, 0] rfl ?_
  refine w_X11_costsSomeDay_L2 hG  ya_F _ h
set_option maxRecDepth 20000 in
theorem w_X11_asks_L46 {X : ya_X} {G : ya_G} {v1 : Int32} {v2 : Int32} {v3 : Int32} {rr : (Int32 × ya_D)} {e131 : Int32 → ya_D → Option (Int32 × ya_D)} (hG : ya_Bk ya_sh ya_ln G 0) (he131 : ∀ (v5 : Int32) (d : ya_D), e131 v5 d = some rr → ya_E X Y_X11_asks (ya_M X (some (.int rr.1), G, rr.2) 0 0) 131 [(0, .ref (X.2.1 + 0)), (1, .int v1), (2, .int v2), (5, .int v5)] [] G d 0 0) : ∀ (n : Nat) (v4 : Int32) (v5 : Int32) (v6 : Int32) (d : ya_D), f_X11_asks_L46 v1 v2 v3 e131 n v4 v5 v6 d = some rr → ya_E X Y_X11_asks (ya_M X (some (.int rr.1), G, rr.2) 0 0) 46 [(0, .ref (X.2.1 + 0)), (1, .int v1), (2, .int v2), (3, .int v3), (4, .int v4), (5, .int v5), (6, .int v6)] [] G d 0 0 := by
  intro n
  induction n with
  | zero => intro v4 v5 v6 d h; cases h
  | succ n ih =>
    intro v4 v5 v6 d h
    rw [f_X11_asks_L46] at h
    refine ya_iload 6 rfl dX11_asks_46 ?_
    refine ya_bipush 99 (by decide) dX11_asks_48 ?_
    refine ya_icmp_gt 131 (by decide) dX11_asks_50 (fun c => ?_) (fun c => ?_)
    · replace h := ya_itet h c
      refine ya_sub [(0, .ref (X.2.1 + 0)), (1, .int v1), (2, .int v2), (5, .int v5)] [0, 1, 2, 5] rfl ?_
      exact he131 _ _ h
    · replace h := ya_itef h c
      refine ya_iload 6 rfl dX11_asks_53 ?_
      refine ya_j3_s h (fun v4_125 v5_125 d_125 => ya_E X Y_X11_asks (ya_M X (some (.int rr.1), G, rr.2) 0 0) 125 [(0, .ref (X.2.1 + 0)), (1, .int v1), (2, .int v2), (3, .int v3), (4, .int v4_125), (5, .int v5_125), (6, .int v6)] [] G d_125 0 0) (fun v4_125 v5_125 d_125 h => ?_) (fun k125 hk125 h => ?_)
      · refine ya_iinc (v6 + 1) rfl 6 rfl [(6, .int (v6 + 1)), (0, .ref (X.2.1 + 0)), (1, .int v1), (2, .int v2), (3, .int v3), (4, .int v4_125), (5, .int v5_125)] (by decide) rfl dX11_asks_125 ?_
        refine ya_goto 46 (by decide) dX11_asks_128 ?_
        refine ya_sub [(0, .ref (X.2.1 + 0)), (1, .int v1), (2, .int v2), (3, .int v3), (4, .int v4_125), (5, .int v5_125), (6, .int (v6 + 1))] [1, 2, 3, 4, 5, 6, 0] rfl ?_
        exact ih _ _ _ _ h
      · refine ya_j0_s h (ya_E X Y_X11_asks (ya_M X (some (.int rr.1), G, rr.2) 0 0) 70 [(0, .ref (X.2.1 + 0)), (1, .int v1), (2, .int v2), (3, .int v3), (4, .int v4), (5, .int v5), (6, .int v6)] [] G d 0 0) (fun h => ?_) (fun k70 hk70 h => ?_)
        · refine ya_aload_n 0 rfl dX11_asks_70 ?_
          refine ya_getR fo_X11_26 (hG.o0 0 rfl) (hG.lt0 0 (by decide)) (hG.l0 40 rfl) dX11_asks_71 ?_
          refine ya_getR fo_X11_181 (hG.o0 24 rfl) (hG.lt0 24 (by decide)) (hG.l0 32 rfl) dX11_asks_74 ?_
          refine ya_getR fo_X11_237 (hG.o0 30 rfl) (hG.lt0 30 (by decide)) (hG.l0 30 rfl) dX11_asks_77 ?_
          refine ya_iload_n 1 rfl dX11_asks_80 ?_
          refine ya_iload 6 rfl dX11_asks_81 ?_
          refine ya_iast (hG.s0 33 rfl) (hG.lt0 33 (by decide)) dX11_asks_83 h (fun d83 h => ?_)
          refine ya_aload_n 0 rfl dX11_asks_84 ?_
          refine ya_getR fo_X11_37 (hG.o0 0 rfl) (hG.lt0 0 (by decide)) (hG.l0 70 rfl) dX11_asks_85 ?_
          refine ya_aload_n 0 rfl dX11_asks_88 ?_
          refine ya_getR fo_X11_26 (hG.o0 0 rfl) (hG.lt0 0 (by decide)) (hG.l0 40 rfl) dX11_asks_89 ?_
          refine ya_iconst 1 (by decide) dX11_asks_92 ?_
          obtain ⟨d93, e93, h⟩ := ya_ob h
          refine ya_callVv (S := []) (c_X10_run hG (bk_0_57 hG) (bk_0_24 hG) e93) m_X10_run ⟨rfl, rfl⟩ ml_X11_244 rfl ⟨Nat.le_of_ble_eq_true rfl, Nat.le_of_ble_eq_true rfl⟩ (Nat.le_of_ble_eq_true rfl) (hG.lt0 57 (by decide)) (hG.o0 57 rfl) (by decide) rfl rfl ⟨Nat.le_refl _, Nat.le_refl _⟩ dX11_asks_93 rfl ?_
          refine ya_aload_n 0 rfl dX11_asks_96 ?_
          refine ya_getR fo_X11_37 (hG.o0 0 rfl) (hG.lt0 0 (by decide)) (hG.l0 70 rfl) dX11_asks_97 ?_
          refine ya_getR fo_X11_134 (hG.o0 57 rfl) (hG.lt0 57 (by decide)) (hG.l0 64 rfl) dX11_asks_100 ?_
          refine ya_iload_n 1 rfl dX11_asks_103 ?_
          refine ya_iald (hG.s0 66 rfl) (hG.lt0 66 (by decide)) dX11_asks_104 h (fun x104 h => ?_)
          refine ya_iload 4 rfl dX11_asks_105 ?_
          refine ya_icmp_le 125 (by decide) dX11_asks_107 (fun c => ?_) (fun c => ?_)
          · replace h := ya_itet h c
            exact hk125 _ _ _ h
          · replace h := ya_itef h c
            refine ya_aload_n 0 rfl dX11_asks_110 ?_
            refine ya_getR fo_X11_37 (hG.o0 0 rfl) (hG.lt0 0 (by decide)) (hG.l0 70 rfl) dX11_asks_111 ?_
            refine ya_getR fo_X11_134 (hG.o0 57 rfl) (hG.lt0 57 (by decide)) (hG.l0 64 rfl) dX11_asks_114 ?_
            refine ya_iload_n 1 rfl dX11_asks_117 ?_
            refine ya_iald (hG.s0 66 rfl) (hG.lt0 66 (by decide)) dX11_asks_118 h (fun x118 h => ?_)
            refine ya_istore [(4, .int x118), (0, .ref (X.2.1 + 0)), (1, .int v1), (2, .int v2), (3, .int v3), (5, .int v5), (6, .int v6)] (by decide) rfl dX11_asks_119 ?_
            refine ya_iload 6 rfl dX11_asks_121 ?_
            refine ya_istore [(5, .int v6), (4, .int x118), (0, .ref (X.2.1 + 0)), (1, .int v1), (2, .int v2), (3, .int v3), (6, .int v6)] (by decide) rfl dX11_asks_123 ?_
            refine ya_sub [(0, .ref (X.2.1 + 0)), (1, .int v1), (2, .int v2), (3, .int v3), (4, .int x118), (5, .int v6), (6, .int v6)] [2, 3, 4, 5, 1, 0, 6] rfl ?_
            exact hk125 _ _ _ h
        · refine ya_ifeq 70 (by decide) dX11_asks_55 (fun c => ?_) (fun c => ?_)
          · replace h := ya_itet h c
            exact hk70  h
          · replace h := ya_itef h c
            refine ya_aload_n 0 rfl dX11_asks_58 ?_
            refine ya_iload_n 3 rfl dX11_asks_59 ?_
            refine ya_iload 6 rfl dX11_asks_60 ?_
            refine ya_iconst 1 (by decide) dX11_asks_62 ?_
            refine ya_isub dX11_asks_63 ?_
            obtain ⟨x64, e64, h⟩ := ya_ob h
            refine ya_callVi (S := []) (c_X11_costsSomeDay hG e64) m_X11_costsSomeDay ⟨rfl, rfl⟩ ml_X11_241 rfl ⟨Nat.le_of_ble_eq_true rfl, Nat.le_of_ble_eq_true rfl⟩ (Nat.le_of_ble_eq_true rfl) (hG.lt0 0 (by decide)) (hG.o0 0 rfl) (by decide) rfl rfl ⟨Nat.le_refl _, Nat.le_refl _⟩ dX11_asks_64 rfl ?_
            refine ya_ifeq 125 (by decide) dX11_asks_67 (fun c => ?_) (fun c => ?_)
            · replace h := ya_itet h c
              exact hk125 _ _ _ h
            · replace h := ya_itef h c
              exact hk70  h
set_option maxRecDepth 20000 in
theorem c_X11_asks {X : ya_X} {G : ya_G} {v1 : Int32} {d : ya_D} {rr : (Int32 × ya_D)} (hG : ya_Bk ya_sh ya_ln G 0) (h : f_X11_asks v1 d = some rr) : ya_Ct X yX11_asks Y_X11_asks [.ref (X.2.1 + 0), .int v1] G d (some (.int rr.1), G, rr.2) := by
  refine ya_ct (by decide +kernel) rfl rfl (Nat.le_of_ble_eq_true rfl) ?_
  unfold f_X11_asks at h
  show ya_E X Y_X11_asks (ya_M X (some (.int rr.1), G, rr.2) 0 0) 0 [(0, .ref (X.2.1 + 0)), (1, .int v1)] [] G d 0 0
  refine ya_aload_n 0 rfl dX11_asks_0 ?_
  refine ya_iload_n 1 rfl dX11_asks_1 ?_
  obtain ⟨x2, e2, h⟩ := ya_ob h
  refine ya_callVi (S := []) (c_X11_isSeller hG e2) m_X11_isSeller ⟨rfl, rfl⟩ ml_X11_130 rfl ⟨Nat.le_of_ble_eq_true rfl, Nat.le_of_ble_eq_true rfl⟩ (Nat.le_of_ble_eq_true rfl) (hG.lt0 0 (by decide)) (hG.o0 0 rfl) (by decide) rfl rfl ⟨Nat.le_refl _, Nat.le_refl _⟩ dX11_asks_2 rfl ?_
  refine ya_ifne 11 (by decide) dX11_asks_5 (fun c => ?_) (fun c => ?_)
  · replace h := ya_itef h c
    refine ya_aload_n 0 rfl dX11_asks_11 ?_
    refine ya_getR fo_X11_26 (hG.o0 0 rfl) (hG.lt0 0 (by decide)) (hG.l0 40 rfl) dX11_asks_12 ?_
    refine ya_getR fo_X11_181 (hG.o0 24 rfl) (hG.lt0 24 (by decide)) (hG.l0 32 rfl) dX11_asks_15 ?_
    refine ya_getR fo_X11_237 (hG.o0 30 rfl) (hG.lt0 30 (by decide)) (hG.l0 30 rfl) dX11_asks_18 ?_
    refine ya_iload_n 1 rfl dX11_asks_21 ?_
    refine ya_iald (hG.s0 33 rfl) (hG.lt0 33 (by decide)) dX11_asks_22 h (fun x22 h => ?_)
    refine ya_istore_n [(2, .int x22), (0, .ref (X.2.1 + 0)), (1, .int v1)] (by decide) rfl dX11_asks_23 ?_
    refine ya_aload_n 1 rfl dX11_asks_24 ?_
    refine ya_getR fo_X11_26 (hG.o0 0 rfl) (hG.lt0 0 (by decide)) (hG.l0 40 rfl) dX11_asks_25 ?_
    refine ya_getR fo_X11_181 (hG.o0 24 rfl) (hG.lt0 24 (by decide)) (hG.l0 32 rfl) dX11_asks_28 ?_
    refine ya_getR fo_X11_240 (hG.o0 30 rfl) (hG.lt0 30 (by decide)) (hG.l0 28 rfl) dX11_asks_31 ?_
    refine ya_iload_n 2 rfl dX11_asks_34 ?_
    refine ya_iald (hG.s0 31 rfl) (hG.lt0 31 (by decide)) dX11_asks_35 h (fun x35 h => ?_)
    refine ya_istore_n [(3, .int x35), (2, .int x22), (0, .ref (X.2.1 + 0)), (1, .int v1)] (by decide) rfl dX11_asks_36 ?_
    refine ya_iconst (-1) (by decide) dX11_asks_37 ?_
    refine ya_istore [(4, .int (-1)), (3, .int x35), (2, .int x22), (0, .ref (X.2.1 + 0)), (1, .int v1)] (by decide) rfl dX11_asks_38 ?_
    refine ya_iconst 0 (by decide) dX11_asks_40 ?_
    refine ya_istore [(5, .int 0), (4, .int (-1)), (3, .int x35), (2, .int x22), (0, .ref (X.2.1 + 0)), (1, .int v1)] (by decide) rfl dX11_asks_41 ?_
    refine ya_iconst 0 (by decide) dX11_asks_43 ?_
    refine ya_istore [(6, .int 0), (5, .int 0), (4, .int (-1)), (3, .int x35), (2, .int x22), (0, .ref (X.2.1 + 0)), (1, .int v1)] (by decide) rfl dX11_asks_44 ?_
    refine ya_sub [(0, .ref (X.2.1 + 0)), (1, .int v1), (2, .int x22), (3, .int x35), (4, .int (-1)), (5, .int 0), (6, .int 0)] [5, 6, 4, 3, 2, 1, 0] rfl ?_
    refine w_X11_asks_L46 hG (fun v5_131 d_131 h => ?_) ya_F _ _ _ _ h
    refine ya_aload_n 0 rfl dX11_asks_131 ?_
    refine ya_getR fo_X11_26 (hG.o0 0 rfl) (hG.lt0 0 (by decide)) (hG.l0 40 rfl) dX11_asks_132 ?_
    refine ya_getR fo_X11_181 (hG.o0 24 rfl) (hG.lt0 24 (by decide)) (hG.l0 32 rfl) dX11_asks_135 ?_
    refine ya_getR fo_X11_237 (hG.o0 30 rfl) (hG.lt0 30 (by decide)) (hG.l0 30 rfl) dX11_asks_138 ?_
    refine ya_iload_n 1 rfl dX11_asks_141 ?_
    refine ya_iload_n 2 rfl dX11_asks_142 ?_
    refine ya_iast (hG.s0 33 rfl) (hG.lt0 33 (by decide)) dX11_asks_143 h (fun d143 h => ?_)
    refine ya_iload 3 rfl dX11_asks_144 ?_
    cases h
    exact ya_iret rfl rfl rfl rfl rfl (Nat.le_refl _) dX11_asks_146
  · replace h := ya_itet h c
    refine ya_bipush (-2) (by decide) dX11_asks_8 ?_
    cases h
    exact ya_iret rfl rfl rfl rfl rfl (Nat.le_refl _) dX11_asks_10
set_option maxRecDepth 20000 in
theorem c_X11_hold {X : ya_X} {G : ya_G} {v1 : Int32} {v2 : Int32} {d : ya_D} {rr : (Int32 × ya_D)} (hG : ya_Bk ya_sh ya_ln G 0) (h : f_X11_hold v1 v2 d = some rr) : ya_Ct X yX11_hold Y_X11_hold [.ref (X.2.1 + 0), .int v1, .int v2] G d (some (.int rr.1), G, rr.2) := by
  refine ya_ct (by decide +kernel) rfl rfl (Nat.le_of_ble_eq_true rfl) ?_
  unfold f_X11_hold at h
  show ya_E X Y_X11_hold (ya_M X (some (.int rr.1), G, rr.2) 0 0) 0 [(0, .ref (X.2.1 + 0)), (1, .int v1), (2, .int v2)] [] G d 0 0
  refine ya_aload_n 0 rfl dX11_hold_0 ?_
  refine ya_iload_n 1 rfl dX11_hold_1 ?_
  obtain ⟨x2, e2, h⟩ := ya_ob h
  refine ya_callVi (S := []) (c_X11_isSeller hG e2) m_X11_isSeller ⟨rfl, rfl⟩ ml_X11_130 rfl ⟨Nat.le_of_ble_eq_true rfl, Nat.le_of_ble_eq_true rfl⟩ (Nat.le_of_ble_eq_true rfl) (hG.lt0 0 (by decide)) (hG.o0 0 rfl) (by decide) rfl rfl ⟨Nat.le_refl _, Nat.le_refl _⟩ dX11_hold_2 rfl ?_
  refine ya_j0_s h (ya_E X Y_X11_hold (ya_M X (some (.int rr.1), G, rr.2) 0 0) 18 [] [] G d 0 0) (fun h => ?_) (fun k18 hk18 h => ?_)
  · refine ya_bipush (-2) (by decide) dX11_hold_18 ?_
    cases h
    exact ya_iret rfl rfl rfl rfl rfl (Nat.le_refl _) dX11_hold_20
  · refine ya_ifeq 18 (by decide) dX11_hold_5 (fun c => ?_) (fun c => ?_)
    · replace h := ya_itet h c
      refine ya_sub [] [] rfl ?_
      exact hk18  h
    · replace h := ya_itef h c
      refine ya_iload_n 2 rfl dX11_hold_8 ?_
      refine ya_iconst 0 (by decide) dX11_hold_9 ?_
      refine ya_bipush 99 (by decide) dX11_hold_10 ?_
      obtain ⟨x12, e12, h⟩ := ya_ob h
      refine ya_callSi (S := []) (c_X11_within hG e12) m_X11_within ⟨rfl, rfl⟩ ml_X11_213 rfl ⟨Nat.le_of_ble_eq_true rfl, Nat.le_of_ble_eq_true rfl⟩ (Nat.le_of_ble_eq_true rfl) ⟨Nat.le_refl _, Nat.le_refl _⟩ dX11_hold_12 rfl ?_
      refine ya_ifne 21 (by decide) dX11_hold_15 (fun c => ?_) (fun c => ?_)
      · replace h := ya_itef h c
        refine ya_aload_n 0 rfl dX11_hold_21 ?_
        refine ya_getR fo_X11_26 (hG.o0 0 rfl) (hG.lt0 0 (by decide)) (hG.l0 40 rfl) dX11_hold_22 ?_
        refine ya_getR fo_X11_181 (hG.o0 24 rfl) (hG.lt0 24 (by decide)) (hG.l0 32 rfl) dX11_hold_25 ?_
        refine ya_getR fo_X11_237 (hG.o0 30 rfl) (hG.lt0 30 (by decide)) (hG.l0 30 rfl) dX11_hold_28 ?_
        refine ya_iload_n 1 rfl dX11_hold_31 ?_
        refine ya_iald (hG.s0 33 rfl) (hG.lt0 33 (by decide)) dX11_hold_32 h (fun x32 h => ?_)
        refine ya_istore_n [(3, .int x32), (0, .ref (X.2.1 + 0)), (1, .int v1), (2, .int v2)] (by decide) rfl dX11_hold_33 ?_
        refine ya_aload_n 1 rfl dX11_hold_34 ?_
        refine ya_getR fo_X11_26 (hG.o0 0 rfl) (hG.lt0 0 (by decide)) (hG.l0 40 rfl) dX11_hold_35 ?_
        refine ya_getR fo_X11_181 (hG.o0 24 rfl) (hG.lt0 24 (by decide)) (hG.l0 32 rfl) dX11_hold_38 ?_
        refine ya_getR fo_X11_237 (hG.o0 30 rfl) (hG.lt0 30 (by decide)) (hG.l0 30 rfl) dX11_hold_41 ?_
        refine ya_iload_n 2 rfl dX11_hold_44 ?_
        refine ya_iload_n 3 rfl dX11_hold_45 ?_
        refine ya_iast (hG.s0 33 rfl) (hG.lt0 33 (by decide)) dX11_hold_46 h (fun d46 h => ?_)
        refine ya_aload_n 1 rfl dX11_hold_47 ?_
        refine ya_iconst 0 (by decide) dX11_hold_48 ?_
        refine ya_putIb fo_X11_64 (hG.o0 0 rfl) (hG.lt0 0 (by decide)) .boolean pf_X11_9 (by decide) rfl dX11_hold_49 h (fun d49 h => ?_)
        refine ya_iload_n 0 rfl dX11_hold_52 ?_
        cases h
        exact ya_iret rfl rfl rfl rfl rfl (Nat.le_refl _) dX11_hold_53
      · replace h := ya_itet h c
        refine ya_sub [] [] rfl ?_
        exact hk18  h
set_option maxRecDepth 20000 in
theorem w_X11_dearestOf_L29 {X : ya_X} {G : ya_G} {v1 : Int32} {v2 : Int32} {d : ya_D} {rr : Int32} (hG : ya_Bk ya_sh ya_ln G 0) : ∀ (n : Nat) (v3 : Int32) (v4 : Int32), f_X11_dearestOf_L29 v1 v2 d n v3 v4 = some rr → ya_E X Y_X11_dearestOf (ya_M X (some (.int rr), G, d) 0 0) 29 [(0, .ref (X.2.1 + 0)), (1, .int v1), (2, .int v2), (3, .int v3), (4, .int v4)] [] G d 0 0 := by
  intro n
  induction n with
  | zero => intro v3 v4 h; cases h
  | succ n ih =>
    intro v3 v4 h
    rw [f_X11_dearestOf_L29] at h
    refine ya_iload 4 rfl dX11_dearestOf_29 ?_
    refine ya_aload_n 0 rfl dX11_dearestOf_31 ?_
    refine ya_getR fo_X11_26 (hG.o0 0 rfl) (hG.lt0 0 (by decide)) (hG.l0 40 rfl) dX11_dearestOf_32 ?_
    refine ya_getR fo_X11_168 (hG.o0 24 rfl) (hG.lt0 24 (by decide)) (hG.l0 39 rfl) dX11_dearestOf_35 ?_
    refine ya_getR fo_X11_388 (hG.o0 35 rfl) (hG.lt0 35 (by decide)) (hG.l0 37 rfl) dX11_dearestOf_38 ?_
    refine ya_iload_n 1 rfl dX11_dearestOf_41 ?_
    refine ya_iald (hG.s0 40 rfl) (hG.lt0 40 (by decide)) dX11_dearestOf_42 h (fun x42 h => ?_)
    refine ya_icmp_gt 74 (by decide) dX11_dearestOf_43 (fun c => ?_) (fun c => ?_)
    · replace h := ya_itet h c
      refine ya_iload_n 3 rfl dX11_dearestOf_74 ?_
      cases h
      exact ya_iret rfl rfl rfl rfl rfl (Nat.le_refl _) dX11_dearestOf_75
    · replace h := ya_itef h c
      refine ya_iload_n 3 rfl dX11_dearestOf_46 ?_
      refine ya_aload_n 0 rfl dX11_dearestOf_47 ?_
      refine ya_getR fo_X11_26 (hG.o0 0 rfl) (hG.lt0 0 (by decide)) (hG.l0 40 rfl) dX11_dearestOf_48 ?_
      refine ya_getR fo_X11_100 (hG.o0 24 rfl) (hG.lt0 24 (by decide)) (hG.l0 27 rfl) dX11_dearestOf_51 ?_
      refine ya_getR fo_X11_104 (hG.o0 25 rfl) (hG.lt0 25 (by decide)) (hG.l0 24 rfl) dX11_dearestOf_54 ?_
      refine ya_iload_n 2 rfl dX11_dearestOf_57 ?_
      refine ya_iload 4 rfl dX11_dearestOf_58 ?_
      obtain ⟨x60, e60, h⟩ := ya_ob h
      refine ya_callSi (S := [.ref (X.2.1 + 27), .int v3]) (c_X11_cell hG e60) m_X11_cell ⟨rfl, rfl⟩ ml_X11_110 rfl ⟨Nat.le_of_ble_eq_true rfl, Nat.le_of_ble_eq_true rfl⟩ (Nat.le_of_ble_eq_true rfl) ⟨Nat.le_refl _, Nat.le_refl _⟩ dX11_dearestOf_60 rfl ?_
      refine ya_iald (hG.s0 27 rfl) (hG.lt0 27 (by decide)) dX11_dearestOf_63 h (fun x63 h => ?_)
      refine ya_mmax ml_X11_201 wm_max1 wm_max2 wm_max3 (by decide) (Nat.le_of_ble_eq_true rfl) ⟨Nat.le_refl _, Nat.le_refl _⟩ dX11_dearestOf_64 ?_
      refine ya_istore_n [(3, .int (ya_max v3 x63)), (0, .ref (X.2.1 + 0)), (1, .int v1), (2, .int v2), (4, .int v4)] (by decide) rfl dX11_dearestOf_67 ?_
      refine ya_iinc (v4 + 1) rfl 4 rfl [(4, .int (v4 + 1)), (3, .int (ya_max v3 x63)), (0, .ref (X.2.1 + 0)), (1, .int v1), (2, .int v2)] (by decide) rfl dX11_dearestOf_68 ?_
      refine ya_goto 29 (by decide) dX11_dearestOf_71 ?_
      refine ya_sub [(0, .ref (X.2.1 + 0)), (1, .int v1), (2, .int v2), (3, .int (ya_max v3 x63)), (4, .int (v4 + 1))] [2, 3, 4, 1, 0] rfl ?_
      exact ih _ _ h
set_option maxRecDepth 20000 in
theorem c_X11_dearestOf {X : ya_X} {G : ya_G} {v1 : Int32} {d : ya_D} {rr : Int32} (hG : ya_Bk ya_sh ya_ln G 0) (h : f_X11_dearestOf v1 d = some rr) : ya_Ct X yX11_dearestOf Y_X11_dearestOf [.ref (X.2.1 + 0), .int v1] G d (some (.int rr), G, d) := by
  refine ya_ct (by decide +kernel) rfl rfl (Nat.le_of_ble_eq_true rfl) ?_
  unfold f_X11_dearestOf at h
  show ya_E X Y_X11_dearestOf (ya_M X (some (.int rr), G, d) 0 0) 0 [(0, .ref (X.2.1 + 0)), (1, .int v1)] [] G d 0 0
  refine ya_aload_n 0 rfl dX11_dearestOf_0 ?_
  refine ya_getR fo_X11_26 (hG.o0 0 rfl) (hG.lt0 0 (by decide)) (hG.l0 40 rfl) dX11_dearestOf_1 ?_
  refine ya_getR fo_X11_168 (hG.o0 24 rfl) (hG.lt0 24 (by decide)) (hG.l0 39 rfl) dX11_dearestOf_4 ?_
  refine ya_getR fo_X11_217 (hG.o0 35 rfl) (hG.lt0 35 (by decide)) (hG.l0 33 rfl) dX11_dearestOf_7 ?_
  refine ya_iload_n 1 rfl dX11_dearestOf_10 ?_
  refine ya_iald (hG.s0 36 rfl) (hG.lt0 36 (by decide)) dX11_dearestOf_11 h (fun x11 h => ?_)
  refine ya_istore_n [(2, .int x11), (0, .ref (X.2.1 + 0)), (1, .int v1)] (by decide) rfl dX11_dearestOf_12 ?_
  refine ya_iconst 0 (by decide) dX11_dearestOf_13 ?_
  refine ya_istore_n [(3, .int 0), (2, .int x11), (0, .ref (X.2.1 + 0)), (1, .int v1)] (by decide) rfl dX11_dearestOf_14 ?_
  refine ya_aload_n 2 rfl dX11_dearestOf_15 ?_
  refine ya_getR fo_X11_26 (hG.o0 0 rfl) (hG.lt0 0 (by decide)) (hG.l0 40 rfl) dX11_dearestOf_16 ?_
  refine ya_getR fo_X11_168 (hG.o0 24 rfl) (hG.lt0 24 (by decide)) (hG.l0 39 rfl) dX11_dearestOf_19 ?_
  refine ya_getR fo_X11_385 (hG.o0 35 rfl) (hG.lt0 35 (by decide)) (hG.l0 36 rfl) dX11_dearestOf_22 ?_
  refine ya_iload_n 3 rfl dX11_dearestOf_25 ?_
  refine ya_iald (hG.s0 39 rfl) (hG.lt0 39 (by decide)) dX11_dearestOf_26 h (fun x26 h => ?_)
  refine ya_istore [(4, .int x26), (3, .int 0), (2, .int x11), (0, .ref (X.2.1 + 0)), (1, .int v1)] (by decide) rfl dX11_dearestOf_27 ?_
  refine ya_sub [(0, .ref (X.2.1 + 0)), (1, .int v1), (2, .int x11), (3, .int 0), (4, .int x26)] [3, 4, 2, 1, 0] rfl ?_
  refine w_X11_dearestOf_L29 hG  ya_F _ _ h
set_option maxRecDepth 20000 in
theorem c_X11_poor {X : ya_X} {G : ya_G} {v1 : Int32} {d : ya_D} {rr : (Int32 × ya_D)} (hG : ya_Bk ya_sh ya_ln G 0) (h : f_X11_poor v1 d = some rr) : ya_Ct X yX11_poor Y_X11_poor [.ref (X.2.1 + 0), .int v1] G d (some (.int rr.1), G, rr.2) := by
  refine ya_ct (by decide +kernel) rfl rfl (Nat.le_of_ble_eq_true rfl) ?_
  unfold f_X11_poor at h
  show ya_E X Y_X11_poor (ya_M X (some (.int rr.1), G, rr.2) 0 0) 0 [(0, .ref (X.2.1 + 0)), (1, .int v1)] [] G d 0 0
  refine ya_aload_n 0 rfl dX11_poor_0 ?_
  refine ya_iload_n 1 rfl dX11_poor_1 ?_
  obtain ⟨x2, e2, h⟩ := ya_ob h
  refine ya_callVi (S := []) (c_X11_isBuyer hG e2) m_X11_isBuyer ⟨rfl, rfl⟩ ml_X11_159 rfl ⟨Nat.le_of_ble_eq_true rfl, Nat.le_of_ble_eq_true rfl⟩ (Nat.le_of_ble_eq_true rfl) (hG.lt0 0 (by decide)) (hG.o0 0 rfl) (by decide) rfl rfl ⟨Nat.le_refl _, Nat.le_refl _⟩ dX11_poor_2 rfl ?_
  refine ya_ifne 11 (by decide) dX11_poor_5 (fun c => ?_) (fun c => ?_)
  · replace h := ya_itef h c
    refine ya_aload_n 0 rfl dX11_poor_11 ?_
    refine ya_iload_n 1 rfl dX11_poor_12 ?_
    obtain ⟨x13, e13, h⟩ := ya_ob h
    refine ya_callVi (S := []) (c_X11_dearestOf hG e13) m_X11_dearestOf ⟨rfl, rfl⟩ ml_X11_248 rfl ⟨Nat.le_of_ble_eq_true rfl, Nat.le_of_ble_eq_true rfl⟩ (Nat.le_of_ble_eq_true rfl) (hG.lt0 0 (by decide)) (hG.o0 0 rfl) (by decide) rfl rfl ⟨Nat.le_refl _, Nat.le_refl _⟩ dX11_poor_13 rfl ?_
    refine ya_istore_n [(2, .int x13), (0, .ref (X.2.1 + 0)), (1, .int v1)] (by decide) rfl dX11_poor_16 ?_
    refine ya_aload_n 1 rfl dX11_poor_17 ?_
    refine ya_getR fo_X11_26 (hG.o0 0 rfl) (hG.lt0 0 (by decide)) (hG.l0 40 rfl) dX11_poor_18 ?_
    refine ya_getR fo_X11_168 (hG.o0 24 rfl) (hG.lt0 24 (by decide)) (hG.l0 39 rfl) dX11_poor_21 ?_
    refine ya_getR fo_X11_251 (hG.o0 35 rfl) (hG.lt0 35 (by decide)) (hG.l0 35 rfl) dX11_poor_24 ?_
    refine ya_iload_n 2 rfl dX11_poor_27 ?_
    refine ya_iald (hG.s0 38 rfl) (hG.lt0 38 (by decide)) dX11_poor_28 h (fun x28 h => ?_)
    refine ya_istore_n [(3, .int x28), (2, .int x13), (0, .ref (X.2.1 + 0)), (1, .int v1)] (by decide) rfl dX11_poor_29 ?_
    refine ya_aload_n 2 rfl dX11_poor_30 ?_
    refine ya_getR fo_X11_26 (hG.o0 0 rfl) (hG.lt0 0 (by decide)) (hG.l0 40 rfl) dX11_poor_31 ?_
    refine ya_getR fo_X11_168 (hG.o0 24 rfl) (hG.lt0 24 (by decide)) (hG.l0 39 rfl) dX11_poor_34 ?_
    refine ya_getR fo_X11_251 (hG.o0 35 rfl) (hG.lt0 35 (by decide)) (hG.l0 35 rfl) dX11_poor_37 ?_
    refine ya_iload_n 3 rfl dX11_poor_40 ?_
    refine ya_iload_n 1 rfl dX11_poor_41 ?_
    refine ya_iast (hG.s0 38 rfl) (hG.lt0 38 (by decide)) dX11_poor_42 h (fun d42 h => ?_)
    refine ya_aload_n 2 rfl dX11_poor_43 ?_
    refine ya_getR fo_X11_37 (hG.o0 0 rfl) (hG.lt0 0 (by decide)) (hG.l0 70 rfl) dX11_poor_44 ?_
    refine ya_aload_n 2 rfl dX11_poor_47 ?_
    refine ya_getR fo_X11_26 (hG.o0 0 rfl) (hG.lt0 0 (by decide)) (hG.l0 40 rfl) dX11_poor_48 ?_
    refine ya_iconst 1 (by decide) dX11_poor_51 ?_
    obtain ⟨d52, e52, h⟩ := ya_ob h
    refine ya_callVv (S := []) (c_X10_run hG (bk_0_57 hG) (bk_0_24 hG) e52) m_X10_run ⟨rfl, rfl⟩ ml_X11_244 rfl ⟨Nat.le_of_ble_eq_true rfl, Nat.le_of_ble_eq_true rfl⟩ (Nat.le_of_ble_eq_true rfl) (hG.lt0 57 (by decide)) (hG.o0 57 rfl) (by decide) rfl rfl ⟨Nat.le_refl _, Nat.le_refl _⟩ dX11_poor_52 rfl ?_
    refine ya_aload_n 2 rfl dX11_poor_55 ?_
    refine ya_getR fo_X11_26 (hG.o0 0 rfl) (hG.lt0 0 (by decide)) (hG.l0 40 rfl) dX11_poor_56 ?_
    refine ya_getR fo_X11_168 (hG.o0 24 rfl) (hG.lt0 24 (by decide)) (hG.l0 39 rfl) dX11_poor_59 ?_
    refine ya_getR fo_X11_251 (hG.o0 35 rfl) (hG.lt0 35 (by decide)) (hG.l0 35 rfl) dX11_poor_62 ?_
    refine ya_iload_n 3 rfl dX11_poor_65 ?_
    refine ya_iload_n 0 rfl dX11_poor_66 ?_
    refine ya_iast (hG.s0 38 rfl) (hG.lt0 38 (by decide)) dX11_poor_67 h (fun d67 h => ?_)
    refine ya_aload_n 2 rfl dX11_poor_68 ?_
    refine ya_getR fo_X11_37 (hG.o0 0 rfl) (hG.lt0 0 (by decide)) (hG.l0 70 rfl) dX11_poor_69 ?_
    refine ya_getR fo_X11_165 (hG.o0 57 rfl) (hG.lt0 57 (by decide)) (hG.l0 68 rfl) dX11_poor_72 ?_
    refine ya_iload_n 3 rfl dX11_poor_75 ?_
    refine ya_iald (hG.s0 70 rfl) (hG.lt0 70 (by decide)) dX11_poor_76 h (fun x76 h => ?_)
    refine ya_aload_n 2 rfl dX11_poor_77 ?_
    refine ya_getR fo_X11_26 (hG.o0 0 rfl) (hG.lt0 0 (by decide)) (hG.l0 40 rfl) dX11_poor_78 ?_
    refine ya_getR fo_X11_168 (hG.o0 24 rfl) (hG.lt0 24 (by decide)) (hG.l0 39 rfl) dX11_poor_81 ?_
    refine ya_iload_n 3 rfl dX11_poor_84 ?_
    obtain ⟨x85, e85, h⟩ := ya_ob h
    refine ya_callVi (S := [.int x76]) (c_X1_wantsInAll hG (bk_0_35 hG) e85) m_X1_wantsInAll ⟨rfl, rfl⟩ ml_X11_172 rfl ⟨Nat.le_of_ble_eq_true rfl, Nat.le_of_ble_eq_true rfl⟩ (Nat.le_of_ble_eq_true rfl) (hG.lt0 35 (by decide)) (hG.o0 35 rfl) (by decide) rfl rfl ⟨Nat.le_refl _, Nat.le_refl _⟩ dX11_poor_85 rfl ?_
    refine ya_icmp_ne 95 (by decide) dX11_poor_88 (fun c => ?_) (fun c => ?_)
    · replace h := ya_itef h c
      refine ya_iconst (-1) (by decide) dX11_poor_95 ?_
      cases h
      exact ya_iret rfl rfl rfl rfl rfl (Nat.le_refl _) dX11_poor_96
    · replace h := ya_itet h c
      refine ya_iload_n 1 rfl dX11_poor_91 ?_
      refine ya_goto 96 (by decide) dX11_poor_92 ?_
      cases h
      exact ya_iret rfl rfl rfl rfl rfl (Nat.le_refl _) dX11_poor_96
  · replace h := ya_itet h c
    refine ya_bipush (-2) (by decide) dX11_poor_8 ?_
    cases h
    exact ya_iret rfl rfl rfl rfl rfl (Nat.le_refl _) dX11_poor_10
set_option maxRecDepth 20000 in
theorem w_X11_years_L38 {X : ya_X} {G : ya_G} {v1 : Int32} {v2 : Int32} {v3 : Int32} {rr : (Int32 × ya_D)} (hG : ya_Bk ya_sh ya_ln G 0) : ∀ (n : Nat) (v4 : Int32) (v5 : Int32) (d : ya_D), f_X11_years_L38 v1 v2 v3 n v4 v5 d = some rr → ya_E X Y_X11_years (ya_M X (some (.int rr.1), G, rr.2) 0 0) 38 [(0, .ref (X.2.1 + 0)), (1, .int v1), (2, .int v2), (3, .int v3), (4, .int v4), (5, .int v5)] [] G d 0 0 := by
  intro n
  induction n with
  | zero => intro v4 v5 d h; cases h
  | succ n ih =>
    intro v4 v5 d h
    rw [f_X11_years_L38] at h
    refine ya_iload 5 rfl dX11_years_38 ?_
    refine ya_iload_n 2 rfl dX11_years_40 ?_
    refine ya_icmp_ge 79 (by decide) dX11_years_41 (fun c => ?_) (fun c => ?_)
    · replace h := ya_itet h c
      refine ya_iload 4 rfl dX11_years_79 ?_
      cases h
      exact ya_iret rfl rfl rfl rfl rfl (Nat.le_refl _) dX11_years_81
    · replace h := ya_itef h c
      refine ya_aload_n 0 rfl dX11_years_44 ?_
      refine ya_getR fo_X11_37 (hG.o0 0 rfl) (hG.lt0 0 (by decide)) (hG.l0 70 rfl) dX11_years_45 ?_
      refine ya_aload_n 0 rfl dX11_years_48 ?_
      refine ya_getR fo_X11_26 (hG.o0 0 rfl) (hG.lt0 0 (by decide)) (hG.l0 40 rfl) dX11_years_49 ?_
      refine ya_iload_n 1 rfl dX11_years_52 ?_
      refine ya_iload 5 rfl dX11_years_53 ?_
      refine ya_iadd dX11_years_55 ?_
      obtain ⟨d56, e56, h⟩ := ya_ob h
      refine ya_callVv (S := []) (c_X10_run hG (bk_0_57 hG) (bk_0_24 hG) e56) m_X10_run ⟨rfl, rfl⟩ ml_X11_244 rfl ⟨Nat.le_of_ble_eq_true rfl, Nat.le_of_ble_eq_true rfl⟩ (Nat.le_of_ble_eq_true rfl) (hG.lt0 57 (by decide)) (hG.o0 57 rfl) (by decide) rfl rfl ⟨Nat.le_refl _, Nat.le_refl _⟩ dX11_years_56 rfl ?_
      refine ya_iload 4 rfl dX11_years_59 ?_
      refine ya_aload_n 0 rfl dX11_years_61 ?_
      refine ya_getR fo_X11_37 (hG.o0 0 rfl) (hG.lt0 0 (by decide)) (hG.l0 70 rfl) dX11_years_62 ?_
      refine ya_getR fo_X11_165 (hG.o0 57 rfl) (hG.lt0 57 (by decide)) (hG.l0 68 rfl) dX11_years_65 ?_
      refine ya_iload_n 3 rfl dX11_years_68 ?_
      refine ya_iald (hG.s0 70 rfl) (hG.lt0 70 (by decide)) dX11_years_69 h (fun x69 h => ?_)
      refine ya_iadd dX11_years_70 ?_
      refine ya_istore [(4, .int (v4 + x69)), (0, .ref (X.2.1 + 0)), (1, .int v1), (2, .int v2), (3, .int v3), (5, .int v5)] (by decide) rfl dX11_years_71 ?_
      refine ya_iinc (v5 + 1) rfl 5 rfl [(5, .int (v5 + 1)), (4, .int (v4 + x69)), (0, .ref (X.2.1 + 0)), (1, .int v1), (2, .int v2), (3, .int v3)] (by decide) rfl dX11_years_73 ?_
      refine ya_goto 38 (by decide) dX11_years_76 ?_
      refine ya_sub [(0, .ref (X.2.1 + 0)), (1, .int v1), (2, .int v2), (3, .int v3), (4, .int (v4 + x69)), (5, .int (v5 + 1))] [2, 3, 4, 5, 1, 0] rfl ?_
      exact ih _ _ _ h
set_option maxRecDepth 20000 in
theorem c_X11_years {X : ya_X} {G : ya_G} {v1 : Int32} {v2 : Int32} {v3 : Int32} {d : ya_D} {rr : (Int32 × ya_D)} (hG : ya_Bk ya_sh ya_ln G 0) (h : f_X11_years v1 v2 v3 d = some rr) : ya_Ct X yX11_years Y_X11_years [.ref (X.2.1 + 0), .int v1, .int v2, .int v3] G d (some (.int rr.1), G, rr.2) := by
  refine ya_ct (by decide +kernel) rfl rfl (Nat.le_of_ble_eq_true rfl) ?_
  unfold f_X11_years at h
  show ya_E X Y_X11_years (ya_M X (some (.int rr.1), G, rr.2) 0 0) 0 [(0, .ref (X.2.1 + 0)), (1, .int v1), (2, .int v2), (3, .int v3)] [] G d 0 0
  refine ya_aload_n 0 rfl dX11_years_0 ?_
  refine ya_iload_n 3 rfl dX11_years_1 ?_
  obtain ⟨x2, e2, h⟩ := ya_ob h
  refine ya_callVi (S := []) (c_X11_isBuyer hG e2) m_X11_isBuyer ⟨rfl, rfl⟩ ml_X11_159 rfl ⟨Nat.le_of_ble_eq_true rfl, Nat.le_of_ble_eq_true rfl⟩ (Nat.le_of_ble_eq_true rfl) (hG.lt0 0 (by decide)) (hG.o0 0 rfl) (by decide) rfl rfl ⟨Nat.le_refl _, Nat.le_refl _⟩ dX11_years_2 rfl ?_
  refine ya_j0_s h (ya_E X Y_X11_years (ya_M X (some (.int rr.1), G, rr.2) 0 0) 29 [] [] G d 0 0) (fun h => ?_) (fun k29 hk29 h => ?_)
  · refine ya_bipush (-2) (by decide) dX11_years_29 ?_
    cases h
    exact ya_iret rfl rfl rfl rfl rfl (Nat.le_refl _) dX11_years_31
  · refine ya_ifeq 29 (by decide) dX11_years_5 (fun c => ?_) (fun c => ?_)
    · replace h := ya_itet h c
      refine ya_sub [] [] rfl ?_
      exact hk29  h
    · replace h := ya_itef h c
      refine ya_iload_n 1 rfl dX11_years_8 ?_
      refine ya_iconst 0 (by decide) dX11_years_9 ?_
      refine ya_ldcw 2000000000 kc_X11_257 dX11_years_10 ?_
      obtain ⟨x13, e13, h⟩ := ya_ob h
      refine ya_callSi (S := []) (c_X11_within hG e13) m_X11_within ⟨rfl, rfl⟩ ml_X11_213 rfl ⟨Nat.le_of_ble_eq_true rfl, Nat.le_of_ble_eq_true rfl⟩ (Nat.le_of_ble_eq_true rfl) ⟨Nat.le_refl _, Nat.le_refl _⟩ dX11_years_13 rfl ?_
      refine ya_ifeq 29 (by decide) dX11_years_16 (fun c => ?_) (fun c => ?_)
      · replace h := ya_itet h c
        refine ya_sub [] [] rfl ?_
        exact hk29  h
      · replace h := ya_itef h c
        refine ya_iload_n 2 rfl dX11_years_19 ?_
        refine ya_iconst 1 (by decide) dX11_years_20 ?_
        refine ya_bipush 20 (by decide) dX11_years_21 ?_
        obtain ⟨x23, e23, h⟩ := ya_ob h
        refine ya_callSi (S := []) (c_X11_within hG e23) m_X11_within ⟨rfl, rfl⟩ ml_X11_213 rfl ⟨Nat.le_of_ble_eq_true rfl, Nat.le_of_ble_eq_true rfl⟩ (Nat.le_of_ble_eq_true rfl) ⟨Nat.le_refl _, Nat.le_refl _⟩ dX11_years_23 rfl ?_
        refine ya_ifne 32 (by decide) dX11_years_26 (fun c => ?_) (fun c => ?_)
        · replace h := ya_itef h c
          refine ya_iconst 0 (by decide) dX11_years_32 ?_
          refine ya_istore [(4, .int 0), (0, .ref (X.2.1 + 0)), (1, .int v1), (2, .int v2), (3, .int v3)] (by decide) rfl dX11_years_33 ?_
          refine ya_iconst 0 (by decide) dX11_years_35 ?_
          refine ya_istore [(5, .int 0), (4, .int 0), (0, .ref (X.2.1 + 0)), (1, .int v1), (2, .int v2), (3, .int v3)] (by decide) rfl dX11_years_36 ?_
          refine ya_sub [(0, .ref (X.2.1 + 0)), (1, .int v1), (2, .int v2), (3, .int v3), (4, .int 0), (5, .int 0)] [2, 3, 4, 5, 1, 0] rfl ?_
          refine w_X11_years_L38 hG  ya_F _ _ _ h
        · replace h := ya_itet h c
          refine ya_sub [] [] rfl ?_
          exact hk29  h
set_option maxRecDepth 20000 in
theorem c_X11_lots {X : ya_X} {G : ya_G} {v1 : Int32} {v2 : Int32} {d : ya_D} {rr : (Int32 × ya_D)} (hG : ya_Bk ya_sh ya_ln G 0) (h : f_X11_lots v1 v2 d = some rr) : ya_Ct X yX11_lots Y_X11_lots [.ref (X.2.1 + 0), .int v1, .int v2] G d (some (.int rr.1), G, rr.2) := by
  refine ya_ct (by decide +kernel) rfl rfl (Nat.le_of_ble_eq_true rfl) ?_
  unfold f_X11_lots at h
  show ya_E X Y_X11_lots (ya_M X (some (.int rr.1), G, rr.2) 0 0) 0 [(0, .ref (X.2.1 + 0)), (1, .int v1), (2, .int v2)] [] G d 0 0
  refine ya_aload_n 0 rfl dX11_lots_0 ?_
  refine ya_iload_n 1 rfl dX11_lots_1 ?_
  refine ya_iconst 1 (by decide) dX11_lots_2 ?_
  refine ya_iload_n 2 rfl dX11_lots_3 ?_
  obtain ⟨x4, d4, e4, h⟩ := ya_ob2 h
  refine ya_callVi (S := []) (c_X11_years hG e4) m_X11_years ⟨rfl, rfl⟩ ml_X11_254 rfl ⟨Nat.le_of_ble_eq_true rfl, Nat.le_of_ble_eq_true rfl⟩ (Nat.le_of_ble_eq_true rfl) (hG.lt0 0 (by decide)) (hG.o0 0 rfl) (by decide) rfl rfl ⟨Nat.le_refl _, Nat.le_refl _⟩ dX11_lots_4 rfl ?_
  cases h
  exact ya_iret rfl rfl rfl rfl rfl (Nat.le_refl _) dX11_lots_7
set_option maxRecDepth 20000 in
theorem c_X11_best {X : ya_X} {G : ya_G} {v1 : Int32} {d : ya_D} {rr : (Int32 × ya_D)} (hG : ya_Bk ya_sh ya_ln G 0) (h : f_X11_best v1 d = some rr) : ya_Ct X yX11_best Y_X11_best [.ref (X.2.1 + 0), .int v1] G d (some (.int rr.1), G, rr.2) := by
  refine ya_ct (by decide +kernel) rfl rfl (Nat.le_of_ble_eq_true rfl) ?_
  unfold f_X11_best at h
  show ya_E X Y_X11_best (ya_M X (some (.int rr.1), G, rr.2) 0 0) 0 [(0, .ref (X.2.1 + 0)), (1, .int v1)] [] G d 0 0
  refine ya_aload_n 0 rfl dX11_best_0 ?_
  refine ya_iload_n 1 rfl dX11_best_1 ?_
  obtain ⟨x2, e2, h⟩ := ya_ob h
  refine ya_callVi (S := []) (c_X11_isSeller hG e2) m_X11_isSeller ⟨rfl, rfl⟩ ml_X11_130 rfl ⟨Nat.le_of_ble_eq_true rfl, Nat.le_of_ble_eq_true rfl⟩ (Nat.le_of_ble_eq_true rfl) (hG.lt0 0 (by decide)) (hG.o0 0 rfl) (by decide) rfl rfl ⟨Nat.le_refl _, Nat.le_refl _⟩ dX11_best_2 rfl ?_
  refine ya_ifne 11 (by decide) dX11_best_5 (fun c => ?_) (fun c => ?_)
  · replace h := ya_itef h c
    refine ya_aload_n 0 rfl dX11_best_11 ?_
    refine ya_getR fo_X11_43 (hG.o0 0 rfl) (hG.lt0 0 (by decide)) (hG.l0 77 rfl) dX11_best_12 ?_
    refine ya_aload_n 0 rfl dX11_best_15 ?_
    refine ya_getR fo_X11_26 (hG.o0 0 rfl) (hG.lt0 0 (by decide)) (hG.l0 40 rfl) dX11_best_16 ?_
    refine ya_iload_n 1 rfl dX11_best_19 ?_
    obtain ⟨d20, e20, h⟩ := ya_ob h
    refine ya_callVv (S := []) (c_X5_load hG (bk_0_24 hG) e20) m_X5_load ⟨rfl, rfl⟩ ml_X11_258 rfl ⟨Nat.le_of_ble_eq_true rfl, Nat.le_of_ble_eq_true rfl⟩ (Nat.le_of_ble_eq_true rfl) (hG.lt0 72 (by decide)) (hG.o0 72 rfl) (by decide) rfl rfl ⟨Nat.le_refl _, Nat.le_refl _⟩ dX11_best_20 rfl ?_
    refine ya_aload_n 0 rfl dX11_best_23 ?_
    refine ya_getR fo_X11_43 (hG.o0 0 rfl) (hG.lt0 0 (by decide)) (hG.l0 77 rfl) dX11_best_24 ?_
    obtain ⟨x27, d27, e27, h⟩ := ya_ob2 h
    refine ya_callVi (S := []) (c_X5_bring hG e27) m_X5_bring ⟨rfl, rfl⟩ ml_X11_261 rfl ⟨Nat.le_of_ble_eq_true rfl, Nat.le_of_ble_eq_true rfl⟩ (Nat.le_of_ble_eq_true rfl) (hG.lt0 72 (by decide)) (hG.o0 72 rfl) (by decide) rfl rfl ⟨Nat.le_refl _, Nat.le_refl _⟩ dX11_best_27 rfl ?_
    cases h
    exact ya_iret rfl rfl rfl rfl rfl (Nat.le_refl _) dX11_best_30
  · replace h := ya_itet h c
    refine ya_bipush (-2) (by decide) dX11_best_8 ?_
    cases h
    exact ya_iret rfl rfl rfl rfl rfl (Nat.le_refl _) dX11_best_10
set_option maxRecDepth 20000 in
theorem c_X11_worth {X : ya_X} {G : ya_G} {v1 : Int32} {v2 : Int32} {d : ya_D} {rr : (Int32 × ya_D)} (hG : ya_Bk ya_sh ya_ln G 0) (h : f_X11_worth v1 v2 d = some rr) : ya_Ct X yX11_worth Y_X11_worth [.ref (X.2.1 + 0), .int v1, .int v2] G d (some (.int rr.1), G, rr.2) := by
  refine ya_ct (by decide +kernel) rfl rfl (Nat.le_of_ble_eq_true rfl) ?_
  unfold f_X11_worth at h
  show ya_E X Y_X11_worth (ya_M X (some (.int rr.1), G, rr.2) 0 0) 0 [(0, .ref (X.2.1 + 0)), (1, .int v1), (2, .int v2)] [] G d 0 0
  refine ya_aload_n 0 rfl dX11_worth_0 ?_
  refine ya_iload_n 1 rfl dX11_worth_1 ?_
  obtain ⟨x2, e2, h⟩ := ya_ob h
  refine ya_callVi (S := []) (c_X11_isSeller hG e2) m_X11_isSeller ⟨rfl, rfl⟩ ml_X11_130 rfl ⟨Nat.le_of_ble_eq_true rfl, Nat.le_of_ble_eq_true rfl⟩ (Nat.le_of_ble_eq_true rfl) (hG.lt0 0 (by decide)) (hG.o0 0 rfl) (by decide) rfl rfl ⟨Nat.le_refl _, Nat.le_refl _⟩ dX11_worth_2 rfl ?_
  refine ya_j0_s h (ya_E X Y_X11_worth (ya_M X (some (.int rr.1), G, rr.2) 0 0) 16 [] [] G d 0 0) (fun h => ?_) (fun k16 hk16 h => ?_)
  · refine ya_bipush (-2) (by decide) dX11_worth_16 ?_
    cases h
    exact ya_iret rfl rfl rfl rfl rfl (Nat.le_refl _) dX11_worth_18
  · refine ya_ifeq 16 (by decide) dX11_worth_5 (fun c => ?_) (fun c => ?_)
    · replace h := ya_itet h c
      refine ya_sub [] [] rfl ?_
      exact hk16  h
    · replace h := ya_itef h c
      refine ya_aload_n 0 rfl dX11_worth_8 ?_
      refine ya_iload_n 2 rfl dX11_worth_9 ?_
      obtain ⟨x10, e10, h⟩ := ya_ob h
      refine ya_callVi (S := []) (c_X11_isDay hG e10) m_X11_isDay ⟨rfl, rfl⟩ ml_X11_150 rfl ⟨Nat.le_of_ble_eq_true rfl, Nat.le_of_ble_eq_true rfl⟩ (Nat.le_of_ble_eq_true rfl) (hG.lt0 0 (by decide)) (hG.o0 0 rfl) (by decide) rfl rfl ⟨Nat.le_refl _, Nat.le_refl _⟩ dX11_worth_10 rfl ?_
      refine ya_ifne 19 (by decide) dX11_worth_13 (fun c => ?_) (fun c => ?_)
      · replace h := ya_itef h c
        refine ya_aload_n 0 rfl dX11_worth_19 ?_
        refine ya_getR fo_X11_43 (hG.o0 0 rfl) (hG.lt0 0 (by decide)) (hG.l0 77 rfl) dX11_worth_20 ?_
        refine ya_aload_n 0 rfl dX11_worth_23 ?_
        refine ya_getR fo_X11_26 (hG.o0 0 rfl) (hG.lt0 0 (by decide)) (hG.l0 40 rfl) dX11_worth_24 ?_
        refine ya_iload_n 1 rfl dX11_worth_27 ?_
        obtain ⟨d28, e28, h⟩ := ya_ob h
        refine ya_callVv (S := []) (c_X5_load hG (bk_0_24 hG) e28) m_X5_load ⟨rfl, rfl⟩ ml_X11_258 rfl ⟨Nat.le_of_ble_eq_true rfl, Nat.le_of_ble_eq_true rfl⟩ (Nat.le_of_ble_eq_true rfl) (hG.lt0 72 (by decide)) (hG.o0 72 rfl) (by decide) rfl rfl ⟨Nat.le_refl _, Nat.le_refl _⟩ dX11_worth_28 rfl ?_
        refine ya_aload_n 0 rfl dX11_worth_31 ?_
        refine ya_getR fo_X11_43 (hG.o0 0 rfl) (hG.lt0 0 (by decide)) (hG.l0 77 rfl) dX11_worth_32 ?_
        obtain ⟨x35, d35, e35, h⟩ := ya_ob2 h
        refine ya_callVi (S := []) (c_X5_bring hG e35) m_X5_bring ⟨rfl, rfl⟩ ml_X11_261 rfl ⟨Nat.le_of_ble_eq_true rfl, Nat.le_of_ble_eq_true rfl⟩ (Nat.le_of_ble_eq_true rfl) (hG.lt0 72 (by decide)) (hG.o0 72 rfl) (by decide) rfl rfl ⟨Nat.le_refl _, Nat.le_refl _⟩ dX11_worth_35 rfl ?_
        refine ya_aload_n 0 rfl dX11_worth_38 ?_
        refine ya_getR fo_X11_43 (hG.o0 0 rfl) (hG.lt0 0 (by decide)) (hG.l0 77 rfl) dX11_worth_39 ?_
        refine ya_iload_n 2 rfl dX11_worth_42 ?_
        obtain ⟨x43, d43, e43, h⟩ := ya_ob2 h
        refine ya_callVi (S := [.int x35]) (c_X5_bringWithout hG e43) m_X5_bringWithout ⟨rfl, rfl⟩ ml_X11_265 rfl ⟨Nat.le_of_ble_eq_true rfl, Nat.le_of_ble_eq_true rfl⟩ (Nat.le_of_ble_eq_true rfl) (hG.lt0 72 (by decide)) (hG.o0 72 rfl) (by decide) rfl rfl ⟨Nat.le_refl _, Nat.le_refl _⟩ dX11_worth_43 rfl ?_
        refine ya_isub dX11_worth_46 ?_
        cases h
        exact ya_iret rfl rfl rfl rfl rfl (Nat.le_refl _) dX11_worth_47
      · replace h := ya_itet h c
        refine ya_sub [] [] rfl ?_
        exact hk16  h
set_option maxRecDepth 20000 in
theorem w_X11_thursday_L49 {X : ya_X} {G : ya_G} {rr : (Int32 × ya_D)} (hG : ya_Bk ya_sh ya_ln G 0) : ∀ (n : Nat) (v2 : Int32) (v3 : Int32) (v4 : Int32) (d : ya_D), f_X11_thursday_L49  n v2 v3 v4 d = some rr → ya_E X Y_X11_thursday (ya_M X (some (.int rr.1), G, rr.2) 0 0) 49 [(0, .ref (X.2.1 + 0)), (2, .int v2), (3, .int v3), (4, .int v4)] [] G d 0 0 := by
  intro n
  induction n with
  | zero => intro v2 v3 v4 d h; cases h
  | succ n ih =>
    intro v2 v3 v4 d h
    rw [f_X11_thursday_L49] at h
    refine ya_iload 3 rfl dX11_thursday_49 ?_
    refine ya_aload_n 0 rfl dX11_thursday_51 ?_
    refine ya_getR fo_X11_26 (hG.o0 0 rfl) (hG.lt0 0 (by decide)) (hG.l0 40 rfl) dX11_thursday_52 ?_
    refine ya_getI fo_X11_192 (hG.o0 24 rfl) (hG.lt0 24 (by decide)) dX11_thursday_55 ?_
    refine ya_icmp_ge 90 (by decide) dX11_thursday_58 (fun c => ?_) (fun c => ?_)
    · replace h := ya_itet h c
      refine ya_iload_n 1 rfl dX11_thursday_90 ?_
      cases h
      exact ya_iret rfl rfl rfl rfl rfl (Nat.le_refl _) dX11_thursday_91
    · replace h := ya_itef h c
      refine ya_aload_n 0 rfl dX11_thursday_61 ?_
      refine ya_getR fo_X11_43 (hG.o0 0 rfl) (hG.lt0 0 (by decide)) (hG.l0 77 rfl) dX11_thursday_62 ?_
      refine ya_iload 3 rfl dX11_thursday_65 ?_
      obtain ⟨x67, d67, e67, h⟩ := ya_ob2 h
      refine ya_callVi (S := []) (c_X5_bringWithout hG e67) m_X5_bringWithout ⟨rfl, rfl⟩ ml_X11_265 rfl ⟨Nat.le_of_ble_eq_true rfl, Nat.le_of_ble_eq_true rfl⟩ (Nat.le_of_ble_eq_true rfl) (hG.lt0 72 (by decide)) (hG.o0 72 rfl) (by decide) rfl rfl ⟨Nat.le_refl _, Nat.le_refl _⟩ dX11_thursday_67 rfl ?_
      refine ya_istore [(5, .int x67), (0, .ref (X.2.1 + 0)), (2, .int v2), (3, .int v3), (4, .int v4)] (by decide) rfl dX11_thursday_70 ?_
      refine ya_iload 0 rfl dX11_thursday_72 ?_
      refine ya_iload_n 3 rfl dX11_thursday_74 ?_
      refine ya_j2_s h (fun v2_84 v3_84 => ya_E X Y_X11_thursday (ya_M X (some (.int rr.1), G, rr.2) 0 0) 84 [(0, .ref (X.2.1 + 0)), (2, .int v2_84), (3, .int v3_84), (4, .int v4)] [] G d67 0 0) (fun v2_84 v3_84 h => ?_) (fun k84 hk84 h => ?_)
      · refine ya_iinc (v4 + 1) rfl 3 rfl [(4, .int (v4 + 1)), (0, .ref (X.2.1 + 0)), (2, .int v2_84), (3, .int v3_84)] (by decide) rfl dX11_thursday_84 ?_
        refine ya_goto 49 (by decide) dX11_thursday_87 ?_
        refine ya_sub [(0, .ref (X.2.1 + 0)), (2, .int v2_84), (3, .int v3_84), (4, .int (v4 + 1))] [1, 2, 3, 0] rfl ?_
        exact ih _ _ _ _ h
      · refine ya_icmp_ge 84 (by decide) dX11_thursday_75 (fun c => ?_) (fun c => ?_)
        · replace h := ya_itet h c
          refine ya_sub [(0, .ref (X.2.1 + 0)), (2, .int v2), (3, .int v3), (4, .int v4)] [1, 2, 3, 4] rfl ?_
          exact hk84 _ _ h
        · replace h := ya_itef h c
          refine ya_iload 0 rfl dX11_thursday_78 ?_
          refine ya_istore_n [(3, .int x67), (5, .int x67), (0, .ref (X.2.1 + 0)), (2, .int v2), (4, .int v4)] (by decide) rfl dX11_thursday_80 ?_
          refine ya_iload 4 rfl dX11_thursday_81 ?_
          refine ya_istore_n [(2, .int v4), (3, .int x67), (5, .int x67), (0, .ref (X.2.1 + 0)), (4, .int v4)] (by decide) rfl dX11_thursday_83 ?_
          refine ya_sub [(0, .ref (X.2.1 + 0)), (2, .int v4), (3, .int x67), (4, .int v4)] [3, 0, 1, 4] rfl ?_
          exact hk84 _ _ h
set_option maxRecDepth 20000 in
theorem c_X11_thursday {X : ya_X} {G : ya_G} {v1 : Int32} {d : ya_D} {rr : (Int32 × ya_D)} (hG : ya_Bk ya_sh ya_ln G 0) (h : f_X11_thursday v1 d = some rr) : ya_Ct X yX11_thursday Y_X11_thursday [.ref (X.2.1 + 0), .int v1] G d (some (.int rr.1), G, rr.2) := by
  refine ya_ct (by decide +kernel) rfl rfl (Nat.le_of_ble_eq_true rfl) ?_
  unfold f_X11_thursday at h
  show ya_E X Y_X11_thursday (ya_M X (some (.int rr.1), G, rr.2) 0 0) 0 [(0, .ref (X.2.1 + 0)), (1, .int v1)] [] G d 0 0
  refine ya_aload_n 0 rfl dX11_thursday_0 ?_
  refine ya_iload_n 1 rfl dX11_thursday_1 ?_
  obtain ⟨x2, e2, h⟩ := ya_ob h
  refine ya_callVi (S := []) (c_X11_isSeller hG e2) m_X11_isSeller ⟨rfl, rfl⟩ ml_X11_130 rfl ⟨Nat.le_of_ble_eq_true rfl, Nat.le_of_ble_eq_true rfl⟩ (Nat.le_of_ble_eq_true rfl) (hG.lt0 0 (by decide)) (hG.o0 0 rfl) (by decide) rfl rfl ⟨Nat.le_refl _, Nat.le_refl _⟩ dX11_thursday_2 rfl ?_
  refine ya_ifne 11 (by decide) dX11_thursday_5 (fun c => ?_) (fun c => ?_)
  · replace h := ya_itef h c
    refine ya_aload_n 0 rfl dX11_thursday_11 ?_
    refine ya_getR fo_X11_43 (hG.o0 0 rfl) (hG.lt0 0 (by decide)) (hG.l0 77 rfl) dX11_thursday_12 ?_
    refine ya_aload_n 0 rfl dX11_thursday_15 ?_
    refine ya_getR fo_X11_26 (hG.o0 0 rfl) (hG.lt0 0 (by decide)) (hG.l0 40 rfl) dX11_thursday_16 ?_
    refine ya_iload_n 1 rfl dX11_thursday_19 ?_
    obtain ⟨d20, e20, h⟩ := ya_ob h
    refine ya_callVv (S := []) (c_X5_load hG (bk_0_24 hG) e20) m_X5_load ⟨rfl, rfl⟩ ml_X11_258 rfl ⟨Nat.le_of_ble_eq_true rfl, Nat.le_of_ble_eq_true rfl⟩ (Nat.le_of_ble_eq_true rfl) (hG.lt0 72 (by decide)) (hG.o0 72 rfl) (by decide) rfl rfl ⟨Nat.le_refl _, Nat.le_refl _⟩ dX11_thursday_20 rfl ?_
    refine ya_aload_n 0 rfl dX11_thursday_23 ?_
    refine ya_getR fo_X11_43 (hG.o0 0 rfl) (hG.lt0 0 (by decide)) (hG.l0 77 rfl) dX11_thursday_24 ?_
    obtain ⟨x27, d27, e27, h⟩ := ya_ob2 h
    refine ya_callVi (S := []) (c_X5_bring hG e27) m_X5_bring ⟨rfl, rfl⟩ ml_X11_261 rfl ⟨Nat.le_of_ble_eq_true rfl, Nat.le_of_ble_eq_true rfl⟩ (Nat.le_of_ble_eq_true rfl) (hG.lt0 72 (by decide)) (hG.o0 72 rfl) (by decide) rfl rfl ⟨Nat.le_refl _, Nat.le_refl _⟩ dX11_thursday_27 rfl ?_
    refine ya_ifne 35 (by decide) dX11_thursday_30 (fun c => ?_) (fun c => ?_)
    · replace h := ya_itef h c
      refine ya_iconst 0 (by decide) dX11_thursday_35 ?_
      refine ya_istore_n [(2, .int 0), (0, .ref (X.2.1 + 0)), (1, .int v1)] (by decide) rfl dX11_thursday_36 ?_
      refine ya_aload_n 1 rfl dX11_thursday_37 ?_
      refine ya_getR fo_X11_43 (hG.o0 0 rfl) (hG.lt0 0 (by decide)) (hG.l0 77 rfl) dX11_thursday_38 ?_
      refine ya_iconst 0 (by decide) dX11_thursday_41 ?_
      obtain ⟨x42, d42, e42, h⟩ := ya_ob2 h
      refine ya_callVi (S := []) (c_X5_bringWithout hG e42) m_X5_bringWithout ⟨rfl, rfl⟩ ml_X11_265 rfl ⟨Nat.le_of_ble_eq_true rfl, Nat.le_of_ble_eq_true rfl⟩ (Nat.le_of_ble_eq_true rfl) (hG.lt0 72 (by decide)) (hG.o0 72 rfl) (by decide) rfl rfl ⟨Nat.le_refl _, Nat.le_refl _⟩ dX11_thursday_42 rfl ?_
      refine ya_istore_n [(3, .int x42), (2, .int 0), (0, .ref (X.2.1 + 0)), (1, .int v1)] (by decide) rfl dX11_thursday_45 ?_
      refine ya_iconst 1 (by decide) dX11_thursday_46 ?_
      refine ya_istore [(4, .int 1), (3, .int x42), (2, .int 0), (0, .ref (X.2.1 + 0)), (1, .int v1)] (by decide) rfl dX11_thursday_47 ?_
      refine ya_sub [(0, .ref (X.2.1 + 0)), (2, .int 0), (3, .int x42), (4, .int 1)] [3, 2, 1, 0] rfl ?_
      refine w_X11_thursday_L49 hG  ya_F _ _ _ _ h
    · replace h := ya_itet h c
      refine ya_iconst (-1) (by decide) dX11_thursday_33 ?_
      cases h
      exact ya_iret rfl rfl rfl rfl rfl (Nat.le_refl _) dX11_thursday_34
  · replace h := ya_itet h c
    refine ya_bipush (-2) (by decide) dX11_thursday_8 ?_
    cases h
    exact ya_iret rfl rfl rfl rfl rfl (Nat.le_refl _) dX11_thursday_10
