set_option maxRecDepth 20000 in
theorem w_X11_agree_L33 {X : ya_X} {G : ya_G} {v1 : Int32} {v2 : Int32} {v3 : Int32} {d : ya_D} {rr : Int32} (hG : ya_Bk ya_sh ya_ln G 0) (hdy : ya_Dy G) : ∀ (n : Nat) (v5 : Int32) (v6 : Int32), f_X11_agree_L33 G v1 v2 v3 d n v5 v6 = some rr → ya_E X Y_X11_agree (ya_M X (some (.int rr), G, d) 0 0) 33 [(0, .ref (X.2.1 + 0)), (1, .int v1), (2, .int v2), (3, .int v3), (5, .int v5), (6, .int v6)] [] G d 0 0 := by
  intro n
  induction n with
  | zero => intro v5 v6 h; cases h
  | succ n ih =>
    intro v5 v6 h
    rw [f_X11_agree_L33] at h
    refine ya_iload 5 rfl dX11_agree_33 ?_
    refine ya_bipush 99 (by decide) dX11_agree_35 ?_
    refine ya_icmp_gt 61 (by decide) dX11_agree_37 (fun c => ?_) (fun c => ?_)
    · replace h := ya_itet h c
      refine ya_iload 4 rfl dX11_agree_61 ?_
      cases h
      exact ya_iret rfl rfl rfl rfl rfl (Nat.le_refl _) dX11_agree_63
    · replace h := ya_itef h c
      refine ya_aload_n 0 rfl dX11_agree_40 ?_
      refine ya_iload_n 1 rfl dX11_agree_41 ?_
      refine ya_iload_n 2 rfl dX11_agree_42 ?_
      refine ya_iload_n 3 rfl dX11_agree_43 ?_
      refine ya_iload 5 rfl dX11_agree_44 ?_
      obtain ⟨x46, e46, h⟩ := ya_ob h
      refine ya_callVi (S := []) (c_X11_crowdsAgree hG hdy e46) m_X11_crowdsAgree ⟨rfl, rfl⟩ ml_X11_329 rfl ⟨Nat.le_of_ble_eq_true rfl, Nat.le_of_ble_eq_true rfl⟩ (Nat.le_of_ble_eq_true rfl) (hG.lt0 0 (by decide)) (hG.o0 0 rfl) (by decide) rfl rfl ⟨Nat.le_refl _, Nat.le_refl _⟩ dX11_agree_46 rfl ?_
      refine ya_j1_s h (fun v5_55 => ya_E X Y_X11_agree (ya_M X (some (.int rr), G, d) 0 0) 55 [(0, .ref (X.2.1 + 0)), (1, .int v1), (2, .int v2), (3, .int v3), (5, .int v5_55), (6, .int v6)] [] G d 0 0) (fun v5_55 h => ?_) (fun k55 hk55 h => ?_)
      · refine ya_iinc (v6 + 1) rfl 5 rfl [(6, .int (v6 + 1)), (0, .ref (X.2.1 + 0)), (1, .int v1), (2, .int v2), (3, .int v3), (5, .int v5_55)] (by decide) rfl dX11_agree_55 ?_
        refine ya_goto 33 (by decide) dX11_agree_58 ?_
        refine ya_sub [(0, .ref (X.2.1 + 0)), (1, .int v1), (2, .int v2), (3, .int v3), (5, .int v5_55), (6, .int (v6 + 1))] [1, 2, 3, 4, 5, 0] rfl ?_
        exact ih _ _ h
      · refine ya_ifeq 55 (by decide) dX11_agree_49 (fun c => ?_) (fun c => ?_)
        · replace h := ya_itet h c
          exact hk55 _ h
        · replace h := ya_itef h c
          refine ya_iinc (v5 + 1) rfl 4 rfl [(5, .int (v5 + 1)), (0, .ref (X.2.1 + 0)), (1, .int v1), (2, .int v2), (3, .int v3), (6, .int v6)] (by decide) rfl dX11_agree_52 ?_
          refine ya_sub [(0, .ref (X.2.1 + 0)), (1, .int v1), (2, .int v2), (3, .int v3), (5, .int (v5 + 1)), (6, .int v6)] [1, 2, 3, 4, 0, 5] rfl ?_
          exact hk55 _ h
set_option maxRecDepth 20000 in
theorem c_X11_agree {X : ya_X} {G : ya_G} {v1 : Int32} {v2 : Int32} {v3 : Int32} {d : ya_D} {rr : Int32} (hG : ya_Bk ya_sh ya_ln G 0) (hdy : ya_Dy G) (h : f_X11_agree G v1 v2 v3 d = some rr) : ya_Ct X yX11_agree Y_X11_agree [.ref (X.2.1 + 0), .int v1, .int v2, .int v3] G d (some (.int rr), G, d) := by
  refine ya_ct (by decide +kernel) rfl rfl (Nat.le_of_ble_eq_true rfl) ?_
  unfold f_X11_agree at h
  show ya_E X Y_X11_agree (ya_M X (some (.int rr), G, d) 0 0) 0 [(0, .ref (X.2.1 + 0)), (1, .int v1), (2, .int v2), (3, .int v3)] [] G d 0 0
  refine ya_aload_n 0 rfl dX11_agree_0 ?_
  refine ya_iload_n 2 rfl dX11_agree_1 ?_
  refine ya_iload_n 3 rfl dX11_agree_2 ?_
  obtain ⟨x3, e3, h⟩ := ya_ob h
  refine ya_callVi (S := []) (c_X11_isThingDay hG e3) m_X11_isThingDay ⟨rfl, rfl⟩ ml_X11_96 rfl ⟨Nat.le_of_ble_eq_true rfl, Nat.le_of_ble_eq_true rfl⟩ (Nat.le_of_ble_eq_true rfl) (hG.lt0 0 (by decide)) (hG.o0 0 rfl) (by decide) rfl rfl ⟨Nat.le_refl _, Nat.le_refl _⟩ dX11_agree_3 rfl ?_
  refine ya_ifne 12 (by decide) dX11_agree_6 (fun c => ?_) (fun c => ?_)
  · replace h := ya_itef h c
    refine ya_aload_n 0 rfl dX11_agree_12 ?_
    refine ya_iload_n 1 rfl dX11_agree_13 ?_
    obtain ⟨x14, e14, h⟩ := ya_ob h
    refine ya_callVi (S := []) (c_X11_refuseCrowds hG hdy e14) m_X11_refuseCrowds ⟨rfl, rfl⟩ ml_X11_326 rfl ⟨Nat.le_of_ble_eq_true rfl, Nat.le_of_ble_eq_true rfl⟩ (Nat.le_of_ble_eq_true rfl) (hG.lt0 0 (by decide)) (hG.o0 0 rfl) (by decide) rfl rfl ⟨Nat.le_refl _, Nat.le_refl _⟩ dX11_agree_14 rfl ?_
    refine ya_istore [(4, .int x14), (0, .ref (X.2.1 + 0)), (1, .int v1), (2, .int v2), (3, .int v3)] (by decide) rfl dX11_agree_17 ?_
    refine ya_iload 0 rfl dX11_agree_19 ?_
    refine ya_ifeq 27 (by decide) dX11_agree_21 (fun c => ?_) (fun c => ?_)
    · replace h := ya_itet h c
      refine ya_iconst 0 (by decide) dX11_agree_27 ?_
      refine ya_istore [(5, .int 0), (4, .int x14), (0, .ref (X.2.1 + 0)), (1, .int v1), (2, .int v2), (3, .int v3)] (by decide) rfl dX11_agree_28 ?_
      refine ya_iconst 0 (by decide) dX11_agree_30 ?_
      refine ya_istore [(6, .int 0), (5, .int 0), (4, .int x14), (0, .ref (X.2.1 + 0)), (1, .int v1), (2, .int v2), (3, .int v3)] (by decide) rfl dX11_agree_31 ?_
      refine ya_sub [(0, .ref (X.2.1 + 0)), (1, .int v1), (2, .int v2), (3, .int v3), (5, .int 0), (6, .int 0)] [3, 4, 5, 6, 1, 0] rfl ?_
      refine w_X11_agree_L33 hG hdy  ya_F _ _ h
    · replace h := ya_itef h c
      refine ya_iload 0 rfl dX11_agree_24 ?_
      cases h
      exact ya_iret rfl rfl rfl rfl rfl (Nat.le_refl _) dX11_agree_26
  · replace h := ya_itet h c
    refine ya_bipush (-2) (by decide) dX11_agree_9 ?_
    cases h
    exact ya_iret rfl rfl rfl rfl rfl (Nat.le_refl _) dX11_agree_11
set_option maxRecDepth 20000 in
theorem w_X11_told_L40 {X : ya_X} {G : ya_G} {v1 : Int32} {v2 : Int32} {v3 : Int32} {v4 : Int32} {d : ya_D} {rr : Int32} (hG : ya_Bk ya_sh ya_ln G 0) (hdy : ya_Dy G) : ∀ (n : Nat) (v6 : Int32), f_X11_told_L40 G v1 v2 v3 v4 d n v6 = some rr → ya_E X Y_X11_told (ya_M X (some (.int rr), G, d) 0 0) 40 [(0, .ref (X.2.1 + 0)), (1, .int v1), (2, .int v2), (3, .int v3), (4, .int v4), (6, .int v6)] [] G d 0 0 := by
  intro n
  induction n with
  | zero => intro v6 h; cases h
  | succ n ih =>
    intro v6 h
    rw [f_X11_told_L40] at h
    refine ya_iload 5 rfl dX11_told_40 ?_
    refine ya_bipush 99 (by decide) dX11_told_42 ?_
    refine ya_icmp_gt 85 (by decide) dX11_told_44 (fun c => ?_) (fun c => ?_)
    · replace h := ya_itet h c
      refine ya_iconst (-1) (by decide) dX11_told_85 ?_
      cases h
      exact ya_iret rfl rfl rfl rfl rfl (Nat.le_refl _) dX11_told_86
    · replace h := ya_itef h c
      refine ya_iload 4 rfl dX11_told_47 ?_
      refine ya_j1_s h (fun t0_62 => ya_E X Y_X11_told (ya_M X (some (.int rr), G, d) 0 0) 62 [(0, .ref (X.2.1 + 0)), (1, .int v1), (2, .int v2), (3, .int v3), (4, .int v4), (6, .int v6)] [.int t0_62] G d 0 0) (fun t0_62 h => ?_) (fun k62 hk62 h => ?_)
      · refine ya_istore [(7, .int t0_62), (0, .ref (X.2.1 + 0)), (1, .int v1), (2, .int v2), (3, .int v3), (4, .int v4), (6, .int v6)] (by decide) rfl dX11_told_62 ?_
        refine ya_aload_n 1 rfl dX11_told_64 ?_
        refine ya_iload_n 2 rfl dX11_told_65 ?_
        refine ya_iload_n 3 rfl dX11_told_66 ?_
        refine ya_iload_n 4 rfl dX11_told_67 ?_
        refine ya_iload 0 rfl dX11_told_68 ?_
        obtain ⟨x70, e70, h⟩ := ya_ob h
        refine ya_callVi (S := []) (c_X11_crowdsAgree hG hdy e70) m_X11_crowdsAgree ⟨rfl, rfl⟩ ml_X11_329 rfl ⟨Nat.le_of_ble_eq_true rfl, Nat.le_of_ble_eq_true rfl⟩ (Nat.le_of_ble_eq_true rfl) (hG.lt0 0 (by decide)) (hG.o0 0 rfl) (by decide) rfl rfl ⟨Nat.le_refl _, Nat.le_refl _⟩ dX11_told_70 rfl ?_
        refine ya_ifeq 79 (by decide) dX11_told_73 (fun c => ?_) (fun c => ?_)
        · replace h := ya_itet h c
          refine ya_iinc (v6 + 1) rfl 6 rfl [(6, .int (v6 + 1)), (7, .int t0_62), (0, .ref (X.2.1 + 0)), (1, .int v1), (2, .int v2), (3, .int v3), (4, .int v4)] (by decide) rfl dX11_told_79 ?_
          refine ya_goto 40 (by decide) dX11_told_82 ?_
          refine ya_sub [(0, .ref (X.2.1 + 0)), (1, .int v1), (2, .int v2), (3, .int v3), (4, .int v4), (6, .int (v6 + 1))] [2, 3, 4, 5, 6, 0] rfl ?_
          exact ih _ h
        · replace h := ya_itef h c
          refine ya_iload 0 rfl dX11_told_76 ?_
          cases h
          exact ya_iret rfl rfl rfl rfl rfl (Nat.le_refl _) dX11_told_78
      · refine ya_ifne 57 (by decide) dX11_told_49 (fun c => ?_) (fun c => ?_)
        · replace h := ya_itef h c
          refine ya_bipush 99 (by decide) dX11_told_57 ?_
          refine ya_iload 5 rfl dX11_told_59 ?_
          refine ya_isub dX11_told_61 ?_
          exact hk62 _ h
        · replace h := ya_itet h c
          refine ya_iload 5 rfl dX11_told_52 ?_
          refine ya_goto 62 (by decide) dX11_told_54 ?_
          exact hk62 _ h
set_option maxRecDepth 20000 in
theorem c_X11_told {X : ya_X} {G : ya_G} {v1 : Int32} {v2 : Int32} {v3 : Int32} {v4 : Int32} {d : ya_D} {rr : Int32} (hG : ya_Bk ya_sh ya_ln G 0) (hdy : ya_Dy G) (h : f_X11_told G v1 v2 v3 v4 d = some rr) : ya_Ct X yX11_told Y_X11_told [.ref (X.2.1 + 0), .int v1, .int v2, .int v3, .int v4] G d (some (.int rr), G, d) := by
  refine ya_ct (by decide +kernel) rfl rfl (Nat.le_of_ble_eq_true rfl) ?_
  unfold f_X11_told at h
  show ya_E X Y_X11_told (ya_M X (some (.int rr), G, d) 0 0) 0 [(0, .ref (X.2.1 + 0)), (1, .int v1), (2, .int v2), (3, .int v3), (4, .int v4)] [] G d 0 0
  refine ya_aload_n 0 rfl dX11_told_0 ?_
  refine ya_iload_n 2 rfl dX11_told_1 ?_
  refine ya_iload_n 3 rfl dX11_told_2 ?_
  obtain ⟨x3, e3, h⟩ := ya_ob h
  refine ya_callVi (S := []) (c_X11_isThingDay hG e3) m_X11_isThingDay ⟨rfl, rfl⟩ ml_X11_96 rfl ⟨Nat.le_of_ble_eq_true rfl, Nat.le_of_ble_eq_true rfl⟩ (Nat.le_of_ble_eq_true rfl) (hG.lt0 0 (by decide)) (hG.o0 0 rfl) (by decide) rfl rfl ⟨Nat.le_refl _, Nat.le_refl _⟩ dX11_told_3 rfl ?_
  refine ya_j0_s h (ya_E X Y_X11_told (ya_M X (some (.int rr), G, d) 0 0) 19 [] [] G d 0 0) (fun h => ?_) (fun k19 hk19 h => ?_)
  · refine ya_bipush (-2) (by decide) dX11_told_19 ?_
    cases h
    exact ya_iret rfl rfl rfl rfl rfl (Nat.le_refl _) dX11_told_21
  · refine ya_ifeq 19 (by decide) dX11_told_6 (fun c => ?_) (fun c => ?_)
    · replace h := ya_itet h c
      refine ya_sub [] [] rfl ?_
      exact hk19  h
    · replace h := ya_itef h c
      refine ya_iload 4 rfl dX11_told_9 ?_
      refine ya_iconst 0 (by decide) dX11_told_11 ?_
      refine ya_iconst 1 (by decide) dX11_told_12 ?_
      obtain ⟨x13, e13, h⟩ := ya_ob h
      refine ya_callSi (S := []) (c_X11_within hG e13) m_X11_within ⟨rfl, rfl⟩ ml_X11_213 rfl ⟨Nat.le_of_ble_eq_true rfl, Nat.le_of_ble_eq_true rfl⟩ (Nat.le_of_ble_eq_true rfl) ⟨Nat.le_refl _, Nat.le_refl _⟩ dX11_told_13 rfl ?_
      refine ya_ifne 22 (by decide) dX11_told_16 (fun c => ?_) (fun c => ?_)
      · replace h := ya_itef h c
        refine ya_aload_n 0 rfl dX11_told_22 ?_
        refine ya_iload_n 1 rfl dX11_told_23 ?_
        obtain ⟨x24, e24, h⟩ := ya_ob h
        refine ya_callVi (S := []) (c_X11_refuseCrowds hG hdy e24) m_X11_refuseCrowds ⟨rfl, rfl⟩ ml_X11_326 rfl ⟨Nat.le_of_ble_eq_true rfl, Nat.le_of_ble_eq_true rfl⟩ (Nat.le_of_ble_eq_true rfl) (hG.lt0 0 (by decide)) (hG.o0 0 rfl) (by decide) rfl rfl ⟨Nat.le_refl _, Nat.le_refl _⟩ dX11_told_24 rfl ?_
        refine ya_istore [(5, .int x24), (0, .ref (X.2.1 + 0)), (1, .int v1), (2, .int v2), (3, .int v3), (4, .int v4)] (by decide) rfl dX11_told_27 ?_
        refine ya_iload 0 rfl dX11_told_29 ?_
        refine ya_ifeq 37 (by decide) dX11_told_31 (fun c => ?_) (fun c => ?_)
        · replace h := ya_itet h c
          refine ya_iconst 0 (by decide) dX11_told_37 ?_
          refine ya_istore [(6, .int 0), (5, .int x24), (0, .ref (X.2.1 + 0)), (1, .int v1), (2, .int v2), (3, .int v3), (4, .int v4)] (by decide) rfl dX11_told_38 ?_
          refine ya_sub [(0, .ref (X.2.1 + 0)), (1, .int v1), (2, .int v2), (3, .int v3), (4, .int v4), (6, .int 0)] [2, 3, 4, 5, 6, 0] rfl ?_
          refine w_X11_told_L40 hG hdy  ya_F _ h
        · replace h := ya_itef h c
          refine ya_iload 0 rfl dX11_told_34 ?_
          cases h
          exact ya_iret rfl rfl rfl rfl rfl (Nat.le_refl _) dX11_told_36
      · replace h := ya_itet h c
        refine ya_sub [] [] rfl ?_
        exact hk19  h
set_option maxRecDepth 20000 in
theorem w_X11_odd_L41 {X : ya_X} {G : ya_G} {q29 : Nat} {d : ya_D} {rr : Int32} (hG : ya_Bk ya_sh ya_ln G 0) (hdy : ya_Dy G) (h_q29 : ya_Bk shX4 lnX4 G q29) : ∀ (n : Nat) (v4 : Int32), f_X11_odd_L41 G q29 d n v4 = some rr → ya_E X Y_X11_odd (ya_M X (some (.int rr), G, d) 0 0) 41 [(0, .ref (X.2.1 + 0)), (3, .ref (X.2.1 + q29)), (4, .int v4)] [] G d 0 0 := by
  intro n
  induction n with
  | zero => intro v4 h; cases h
  | succ n ih =>
    intro v4 h
    rw [f_X11_odd_L41] at h
    refine ya_iload 2 rfl dX11_odd_41 ?_
    refine ya_iconst 2 (by decide) dX11_odd_43 ?_
    refine ya_iadd dX11_odd_44 ?_
    refine ya_aload_n 1 rfl dX11_odd_45 ?_
    refine ya_getI fo_X11_332 (h_q29.o 0 rfl) (h_q29.lt 0 (by decide)) dX11_odd_46 ?_
    refine ya_icmp_ge 119 (by decide) dX11_odd_49 (fun c => ?_) (fun c => ?_)
    · replace h := ya_itet h c
      refine ya_iconst (-1) (by decide) dX11_odd_119 ?_
      cases h
      exact ya_iret rfl rfl rfl rfl rfl (Nat.le_refl _) dX11_odd_120
    · replace h := ya_itef h c
      refine ya_aload_n 1 rfl dX11_odd_52 ?_
      refine ya_getR fo_X11_333 (h_q29.o 0 rfl) (h_q29.lt 0 (by decide)) (h_q29.l 0 rfl) dX11_odd_53 ?_
      refine ya_iload 2 rfl dX11_odd_56 ?_
      refine ya_lald (h_q29.s 1 rfl) (h_q29.lt 1 (by decide)) dX11_odd_58 h (fun x58 h => ?_)
      refine ya_l2i dX11_odd_59 ?_
      refine ya_istore [(5, .int ((x58).toInt32)), (0, .ref (X.2.1 + 0)), (3, .ref (X.2.1 + q29)), (4, .int v4)] (by decide) rfl dX11_odd_60 ?_
      refine ya_aload_n 2 rfl dX11_odd_62 ?_
      refine ya_getR fo_X11_333 (h_q29.o 0 rfl) (h_q29.lt 0 (by decide)) (h_q29.l 0 rfl) dX11_odd_63 ?_
      refine ya_iload 3 rfl dX11_odd_66 ?_
      refine ya_iconst 1 (by decide) dX11_odd_68 ?_
      refine ya_iadd dX11_odd_69 ?_
      refine ya_lald (h_q29.s 1 rfl) (h_q29.lt 1 (by decide)) dX11_odd_70 h (fun x70 h => ?_)
      refine ya_l2i dX11_odd_71 ?_
      refine ya_istore [(6, .int ((x70).toInt32)), (5, .int ((x58).toInt32)), (0, .ref (X.2.1 + 0)), (3, .ref (X.2.1 + q29)), (4, .int v4)] (by decide) rfl dX11_odd_72 ?_
      refine ya_aload_n 2 rfl dX11_odd_74 ?_
      refine ya_iload 1 rfl dX11_odd_75 ?_
      refine ya_iload 0 rfl dX11_odd_77 ?_
      obtain ⟨x79, e79, h⟩ := ya_ob h
      refine ya_callVi (S := []) (c_X11_price hG e79) m_X11_price ⟨rfl, rfl⟩ ml_X11_337 rfl ⟨Nat.le_of_ble_eq_true rfl, Nat.le_of_ble_eq_true rfl⟩ (Nat.le_of_ble_eq_true rfl) (hG.lt0 0 (by decide)) (hG.o0 0 rfl) (by decide) rfl rfl ⟨Nat.le_refl _, Nat.le_refl _⟩ dX11_odd_79 rfl ?_
      refine ya_istore [(7, .int x79), (6, .int ((x70).toInt32)), (5, .int ((x58).toInt32)), (0, .ref (X.2.1 + 0)), (3, .ref (X.2.1 + q29)), (4, .int v4)] (by decide) rfl dX11_odd_82 ?_
      refine ya_aload_n 3 rfl dX11_odd_84 ?_
      refine ya_iload 2 rfl dX11_odd_85 ?_
      refine ya_iload 1 rfl dX11_odd_87 ?_
      refine ya_iload 0 rfl dX11_odd_89 ?_
      obtain ⟨x91, e91, h⟩ := ya_ob h
      refine ya_callVi (S := []) (c_X11_come hG e91) m_X11_come ⟨rfl, rfl⟩ ml_X11_339 rfl ⟨Nat.le_of_ble_eq_true rfl, Nat.le_of_ble_eq_true rfl⟩ (Nat.le_of_ble_eq_true rfl) (hG.lt0 0 (by decide)) (hG.o0 0 rfl) (by decide) rfl rfl ⟨Nat.le_refl _, Nat.le_refl _⟩ dX11_odd_91 rfl ?_
      refine ya_i2l dX11_odd_94 ?_
      refine ya_aload_n 4 rfl dX11_odd_95 ?_
      refine ya_getR fo_X11_333 (h_q29.o 0 rfl) (h_q29.lt 0 (by decide)) (h_q29.l 0 rfl) dX11_odd_96 ?_
      refine ya_iload 5 rfl dX11_odd_99 ?_
      refine ya_iconst 2 (by decide) dX11_odd_101 ?_
      refine ya_iadd dX11_odd_102 ?_
      refine ya_lald (h_q29.s 1 rfl) (h_q29.lt 1 (by decide)) dX11_odd_103 h (fun x103 h => ?_)
      refine ya_lif_eq 113 (by decide) dX11_odd_104 dX11_odd_105 (fun c => ?_) (fun c => ?_)
      · replace h := ya_itet h c
        refine ya_iinc (v4 + 3) rfl 5 rfl [(4, .int (v4 + 3)), (7, .int x79), (6, .int ((x70).toInt32)), (5, .int ((x58).toInt32)), (0, .ref (X.2.1 + 0)), (3, .ref (X.2.1 + q29))] (by decide) rfl dX11_odd_113 ?_
        refine ya_goto 41 (by decide) dX11_odd_116 ?_
        refine ya_sub [(0, .ref (X.2.1 + 0)), (3, .ref (X.2.1 + q29)), (4, .int (v4 + 3))] [4, 5, 0] rfl ?_
        exact ih _ h
      · replace h := ya_itef h c
        refine ya_iload 5 rfl dX11_odd_108 ?_
        refine ya_iconst 3 (by decide) dX11_odd_110 ?_
        refine ya_idiv (by decide) dX11_odd_111 ?_
        cases h
        exact ya_iret rfl rfl rfl rfl rfl (Nat.le_refl _) dX11_odd_112
set_option maxRecDepth 20000 in
theorem c_X11_odd {X : ya_X} {G : ya_G} {v1 : Int32} {d : ya_D} {rr : Int32} (hG : ya_Bk ya_sh ya_ln G 0) (hdy : ya_Dy G) (h : f_X11_odd G v1 d = some rr) : ya_Ct X yX11_odd Y_X11_odd [.ref (X.2.1 + 0), .int v1] G d (some (.int rr), G, d) := by
  refine ya_ct (by decide +kernel) rfl rfl (Nat.le_of_ble_eq_true rfl) ?_
  unfold f_X11_odd at h
  show ya_E X Y_X11_odd (ya_M X (some (.int rr), G, d) 0 0) 0 [(0, .ref (X.2.1 + 0)), (1, .int v1)] [] G d 0 0
  refine ya_aload_n 0 rfl dX11_odd_0 ?_
  obtain ⟨x1, e1, h⟩ := ya_ob h
  refine ya_callVi (S := []) (c_X11_isMarket hG e1) m_X11_isMarket ⟨rfl, rfl⟩ ml_X11_177 rfl ⟨Nat.le_of_ble_eq_true rfl, Nat.le_of_ble_eq_true rfl⟩ (Nat.le_of_ble_eq_true rfl) (hG.lt0 0 (by decide)) (hG.o0 0 rfl) (by decide) rfl rfl ⟨Nat.le_refl _, Nat.le_refl _⟩ dX11_odd_1 rfl ?_
  refine ya_j1_s h (fun t0_17 => ya_E X Y_X11_odd (ya_M X (some (.int rr), G, d) 0 0) 17 [(0, .ref (X.2.1 + 0)), (1, .int v1)] [.int t0_17] G d 0 0) (fun t0_17 h => ?_) (fun k17 hk17 h => ?_)
  · refine ya_istore_n [(2, .int t0_17), (0, .ref (X.2.1 + 0)), (1, .int v1)] (by decide) rfl dX11_odd_17 ?_
    refine ya_iload_n 0 rfl dX11_odd_18 ?_
    refine ya_ifeq 24 (by decide) dX11_odd_19 (fun c => ?_) (fun c => ?_)
    · replace h := ya_itet h c
      refine ya_aload_n 1 rfl dX11_odd_24 ?_
      refine ya_getR fo_X11_60 (hG.o0 0 rfl) (hG.lt0 0 (by decide)) (hG.l0 81 rfl) dX11_odd_25 ?_
      refine ya_iload_n 2 rfl dX11_odd_28 ?_
      refine ya_lkb (C := "YearAgo$Row") (hG.s0 82 rfl) (by decide) (by decide) rfl (hG.lt0 82 (by decide)) dX11_odd_29 h (fun h => ?_) (fun q29 hq h => ?_)
      · refine ya_astoreN_n [(3, .null), (2, .int t0_17), (0, .ref (X.2.1 + 0)), (1, .int v1)] (by decide) rfl dX11_odd_30 ?_
        refine ya_aloadN_n 0 rfl dX11_odd_31 ?_
        refine ya_ifnonnullN dX11_odd_32 ?_
        refine ya_bipush (-6) (by decide) dX11_odd_35 ?_
        cases h
        exact ya_iret rfl rfl rfl rfl rfl (Nat.le_refl _) dX11_odd_37
      · have h_q29 := hdy.2 _ _ hq
        refine ya_astore_n [(3, .ref (X.2.1 + q29)), (2, .int t0_17), (0, .ref (X.2.1 + 0)), (1, .int v1)] (by decide) rfl dX11_odd_30 ?_
        refine ya_aload_n 0 rfl dX11_odd_31 ?_
        refine ya_ifnonnull 38 (by decide) dX11_odd_32 ?_
        refine ya_iconst 0 (by decide) dX11_odd_38 ?_
        refine ya_istore [(4, .int 0), (3, .ref (X.2.1 + q29)), (2, .int t0_17), (0, .ref (X.2.1 + 0)), (1, .int v1)] (by decide) rfl dX11_odd_39 ?_
        refine ya_sub [(0, .ref (X.2.1 + 0)), (3, .ref (X.2.1 + q29)), (4, .int 0)] [3, 1, 0] rfl ?_
        refine w_X11_odd_L41 hG hdy h_q29  ya_F _ h
    · replace h := ya_itef h c
      refine ya_iload_n 0 rfl dX11_odd_22 ?_
      cases h
      exact ya_iret rfl rfl rfl rfl rfl (Nat.le_refl _) dX11_odd_23
  · refine ya_ifeq 15 (by decide) dX11_odd_4 (fun c => ?_) (fun c => ?_)
    · replace h := ya_itet h c
      refine ya_bipush (-2) (by decide) dX11_odd_15 ?_
      exact hk17 _ h
    · replace h := ya_itef h c
      refine ya_aload_n 0 rfl dX11_odd_7 ?_
      refine ya_iload_n 1 rfl dX11_odd_8 ?_
      obtain ⟨x9, e9, h⟩ := ya_ob h
      refine ya_callVi (S := []) (c_X11_refuseCrowds hG hdy e9) m_X11_refuseCrowds ⟨rfl, rfl⟩ ml_X11_326 rfl ⟨Nat.le_of_ble_eq_true rfl, Nat.le_of_ble_eq_true rfl⟩ (Nat.le_of_ble_eq_true rfl) (hG.lt0 0 (by decide)) (hG.o0 0 rfl) (by decide) rfl rfl ⟨Nat.le_refl _, Nat.le_refl _⟩ dX11_odd_9 rfl ?_
      refine ya_goto 17 (by decide) dX11_odd_12 ?_
      exact hk17 _ h
set_option maxRecDepth 20000 in
theorem w_X11_rowsThere_L4 {X : ya_X} {G : ya_G} {d : ya_D} {rr : Int32} (hG : ya_Bk ya_sh ya_ln G 0) (hdy : ya_Dy G) : ∀ (n : Nat) (v1 : Int32) (v2 : Int32), f_X11_rowsThere_L4 G n v1 v2 = some rr → ya_E X Y_X11_rowsThere (ya_M X (some (.int rr), G, d) 0 0) 4 [(0, .ref (X.2.1 + 0)), (1, .int v1), (2, .int v2)] [] G d 0 0 := by
  intro n
  induction n with
  | zero => intro v1 v2 h; cases h
  | succ n ih =>
    intro v1 v2 h
    rw [f_X11_rowsThere_L4] at h
    refine ya_iload_n 2 rfl dX11_rowsThere_4 ?_
    refine ya_iconst 4 (by decide) dX11_rowsThere_5 ?_
    refine ya_icmp_ge 27 (by decide) dX11_rowsThere_6 (fun c => ?_) (fun c => ?_)
    · replace h := ya_itet h c
      refine ya_iload_n 1 rfl dX11_rowsThere_27 ?_
      cases h
      exact ya_iret rfl rfl rfl rfl rfl (Nat.le_refl _) dX11_rowsThere_28
    · replace h := ya_itef h c
      refine ya_aload_n 0 rfl dX11_rowsThere_9 ?_
      refine ya_getR fo_X11_60 (hG.o0 0 rfl) (hG.lt0 0 (by decide)) (hG.l0 81 rfl) dX11_rowsThere_10 ?_
      refine ya_iload_n 2 rfl dX11_rowsThere_13 ?_
      refine ya_lkb (C := "YearAgo$Row") (hG.s0 82 rfl) (by decide) (by decide) rfl (hG.lt0 82 (by decide)) dX11_rowsThere_14 h (fun h => ?_) (fun q14 hq h => ?_)
      · refine ya_ifnullN 21 (by decide) dX11_rowsThere_15 ?_
        refine ya_iinc (v2 + 1) rfl 2 rfl [(2, .int (v2 + 1)), (0, .ref (X.2.1 + 0)), (1, .int v1)] (by decide) rfl dX11_rowsThere_21 ?_
        refine ya_goto 4 (by decide) dX11_rowsThere_24 ?_
        refine ya_sub [(0, .ref (X.2.1 + 0)), (1, .int v1), (2, .int (v2 + 1))] [1, 2, 0] rfl ?_
        exact ih _ _ h
      · have h_q14 := hdy.2 _ _ hq
        refine ya_ifnull dX11_rowsThere_15 ?_
        refine ya_iinc (v1 + 1) rfl 1 rfl [(1, .int (v1 + 1)), (0, .ref (X.2.1 + 0)), (2, .int v2)] (by decide) rfl dX11_rowsThere_18 ?_
        refine ya_iinc (v2 + 1) rfl 2 rfl [(2, .int (v2 + 1)), (1, .int (v1 + 1)), (0, .ref (X.2.1 + 0))] (by decide) rfl dX11_rowsThere_21 ?_
        refine ya_goto 4 (by decide) dX11_rowsThere_24 ?_
        refine ya_sub [(0, .ref (X.2.1 + 0)), (1, .int (v1 + 1)), (2, .int (v2 + 1))] [2, 1, 0] rfl ?_
        exact ih _ _ h
set_option maxRecDepth 20000 in
theorem c_X11_rowsThere {X : ya_X} {G : ya_G} {d : ya_D} {rr : Int32} (hG : ya_Bk ya_sh ya_ln G 0) (hdy : ya_Dy G) (h : f_X11_rowsThere G = some rr) : ya_Ct X yX11_rowsThere Y_X11_rowsThere [.ref (X.2.1 + 0)] G d (some (.int rr), G, d) := by
  refine ya_ct (by decide +kernel) rfl rfl (Nat.le_of_ble_eq_true rfl) ?_
  unfold f_X11_rowsThere at h
  show ya_E X Y_X11_rowsThere (ya_M X (some (.int rr), G, d) 0 0) 0 [(0, .ref (X.2.1 + 0))] [] G d 0 0
  refine ya_iconst 0 (by decide) dX11_rowsThere_0 ?_
  refine ya_istore_n [(1, .int 0), (0, .ref (X.2.1 + 0))] (by decide) rfl dX11_rowsThere_1 ?_
  refine ya_iconst 0 (by decide) dX11_rowsThere_2 ?_
  refine ya_istore_n [(2, .int 0), (1, .int 0), (0, .ref (X.2.1 + 0))] (by decide) rfl dX11_rowsThere_3 ?_
  refine ya_sub [(0, .ref (X.2.1 + 0)), (1, .int 0), (2, .int 0)] [2, 1, 0] rfl ?_
  refine w_X11_rowsThere_L4 hG hdy  ya_F _ _ h
set_option maxRecDepth 20000 in
theorem c_X11_count {X : ya_X} {G : ya_G} {v1 : Int32} {d : ya_D} {rr : Int32} (hG : ya_Bk ya_sh ya_ln G 0) (hdy : ya_Dy G) (h : f_X11_count G v1 d = some rr) : ya_Ct X yX11_count Y_X11_count [.ref (X.2.1 + 0), .int v1] G d (some (.int rr), G, d) := by
  refine ya_ct (by decide +kernel) rfl rfl (Nat.le_of_ble_eq_true rfl) ?_
  unfold f_X11_count at h
  show ya_E X Y_X11_count (ya_M X (some (.int rr), G, d) 0 0) 0 [(0, .ref (X.2.1 + 0)), (1, .int v1)] [] G d 0 0
  refine ya_iload_n 1 rfl dX11_count_0 ?_
  rcases ya_ite h with ⟨c1_0, h⟩ | ⟨n1_0, h⟩
  · refine ya_tswIn 0 52 c1_0 (by decide) (by decide) rfl (by decide) dX11_count_1 ?_
    refine ya_aload_n 0 rfl dX11_count_52 ?_
    refine ya_getR fo_X11_26 (hG.o0 0 rfl) (hG.lt0 0 (by decide)) (hG.l0 40 rfl) dX11_count_53 ?_
    refine ya_getI fo_X11_192 (hG.o0 24 rfl) (hG.lt0 24 (by decide)) dX11_count_56 ?_
    cases h
    exact ya_iret rfl rfl rfl rfl rfl (Nat.le_refl _) dX11_count_59
  · rcases ya_ite h with ⟨c1_1, h⟩ | ⟨n1_1, h⟩
    · refine ya_tswIn 1 60 c1_1 (by decide) (by decide) rfl (by decide) dX11_count_1 ?_
      refine ya_aload_n 0 rfl dX11_count_60 ?_
      refine ya_getR fo_X11_26 (hG.o0 0 rfl) (hG.lt0 0 (by decide)) (hG.l0 40 rfl) dX11_count_61 ?_
      refine ya_getR fo_X11_100 (hG.o0 24 rfl) (hG.lt0 24 (by decide)) (hG.l0 27 rfl) dX11_count_64 ?_
      refine ya_getI fo_X11_342 (hG.o0 25 rfl) (hG.lt0 25 (by decide)) dX11_count_67 ?_
      cases h
      exact ya_iret rfl rfl rfl rfl rfl (Nat.le_refl _) dX11_count_70
    · rcases ya_ite h with ⟨c1_2, h⟩ | ⟨n1_2, h⟩
      · refine ya_tswIn 2 71 c1_2 (by decide) (by decide) rfl (by decide) dX11_count_1 ?_
        refine ya_aload_n 0 rfl dX11_count_71 ?_
        refine ya_getR fo_X11_26 (hG.o0 0 rfl) (hG.lt0 0 (by decide)) (hG.l0 40 rfl) dX11_count_72 ?_
        refine ya_getR fo_X11_181 (hG.o0 24 rfl) (hG.lt0 24 (by decide)) (hG.l0 32 rfl) dX11_count_75 ?_
        refine ya_getI fo_X11_185 (hG.o0 30 rfl) (hG.lt0 30 (by decide)) dX11_count_78 ?_
        cases h
        exact ya_iret rfl rfl rfl rfl rfl (Nat.le_refl _) dX11_count_81
      · rcases ya_ite h with ⟨c1_3, h⟩ | ⟨n1_3, h⟩
        · refine ya_tswIn 3 82 c1_3 (by decide) (by decide) rfl (by decide) dX11_count_1 ?_
          refine ya_aload_n 0 rfl dX11_count_82 ?_
          refine ya_getR fo_X11_26 (hG.o0 0 rfl) (hG.lt0 0 (by decide)) (hG.l0 40 rfl) dX11_count_83 ?_
          refine ya_getR fo_X11_168 (hG.o0 24 rfl) (hG.lt0 24 (by decide)) (hG.l0 39 rfl) dX11_count_86 ?_
          refine ya_getI fo_X11_343 (hG.o0 35 rfl) (hG.lt0 35 (by decide)) dX11_count_89 ?_
          cases h
          exact ya_iret rfl rfl rfl rfl rfl (Nat.le_refl _) dX11_count_92
        · rcases ya_ite h with ⟨c1_4, h⟩ | ⟨n1_4, h⟩
          · refine ya_tswIn 4 93 c1_4 (by decide) (by decide) rfl (by decide) dX11_count_1 ?_
            refine ya_aload_n 0 rfl dX11_count_93 ?_
            refine ya_getR fo_X11_26 (hG.o0 0 rfl) (hG.lt0 0 (by decide)) (hG.l0 40 rfl) dX11_count_94 ?_
            refine ya_getI fo_X11_87 (hG.o0 24 rfl) (hG.lt0 24 (by decide)) dX11_count_97 ?_
            cases h
            exact ya_iret rfl rfl rfl rfl rfl (Nat.le_refl _) dX11_count_100
          · rcases ya_ite h with ⟨c1_5, h⟩ | ⟨n1_5, h⟩
            · refine ya_tswIn 5 101 c1_5 (by decide) (by decide) rfl (by decide) dX11_count_1 ?_
              refine ya_aload_n 0 rfl dX11_count_101 ?_
              refine ya_getR fo_X11_10 (hG.o0 0 rfl) (hG.lt0 0 (by decide)) (hG.l0 1 rfl) dX11_count_102 ?_
              refine ya_getI fo_X11_68 (hG.o0 1 rfl) (hG.lt0 1 (by decide)) dX11_count_105 ?_
              cases h
              exact ya_iret rfl rfl rfl rfl rfl (Nat.le_refl _) dX11_count_108
            · rcases ya_ite h with ⟨c1_6, h⟩ | ⟨n1_6, h⟩
              · refine ya_tswIn 6 109 c1_6 (by decide) (by decide) rfl (by decide) dX11_count_1 ?_
                refine ya_aload_n 0 rfl dX11_count_109 ?_
                refine ya_getR fo_X11_26 (hG.o0 0 rfl) (hG.lt0 0 (by decide)) (hG.l0 40 rfl) dX11_count_110 ?_
                refine ya_getI fo_X11_284 (hG.o0 24 rfl) (hG.lt0 24 (by decide)) dX11_count_113 ?_
                cases h
                exact ya_iret rfl rfl rfl rfl rfl (Nat.le_refl _) dX11_count_116
              · rcases ya_ite h with ⟨c1_7, h⟩ | ⟨n1_7, h⟩
                · refine ya_tswIn 7 117 c1_7 (by decide) (by decide) rfl (by decide) dX11_count_1 ?_
                  refine ya_aload_n 0 rfl dX11_count_117 ?_
                  obtain ⟨x118, e118, h⟩ := ya_ob h
                  refine ya_callVi (S := []) (c_X11_markedOtherwise hG e118) m_X11_markedOtherwise ⟨rfl, rfl⟩ ml_X11_290 rfl ⟨Nat.le_of_ble_eq_true rfl, Nat.le_of_ble_eq_true rfl⟩ (Nat.le_of_ble_eq_true rfl) (hG.lt0 0 (by decide)) (hG.o0 0 rfl) (by decide) rfl rfl ⟨Nat.le_refl _, Nat.le_refl _⟩ dX11_count_118 rfl ?_
                  cases h
                  exact ya_iret rfl rfl rfl rfl rfl (Nat.le_refl _) dX11_count_121
                · rcases ya_ite h with ⟨c1_8, h⟩ | ⟨n1_8, h⟩
                  · refine ya_tswIn 8 122 c1_8 (by decide) (by decide) rfl (by decide) dX11_count_1 ?_
                    refine ya_aload_n 0 rfl dX11_count_122 ?_
                    obtain ⟨x123, e123, h⟩ := ya_ob h
                    refine ya_callVi (S := []) (c_X11_rowsThere hG hdy e123) m_X11_rowsThere ⟨rfl, rfl⟩ ml_X11_344 rfl ⟨Nat.le_of_ble_eq_true rfl, Nat.le_of_ble_eq_true rfl⟩ (Nat.le_of_ble_eq_true rfl) (hG.lt0 0 (by decide)) (hG.o0 0 rfl) (by decide) rfl rfl ⟨Nat.le_refl _, Nat.le_refl _⟩ dX11_count_123 rfl ?_
                    cases h
                    exact ya_iret rfl rfl rfl rfl rfl (Nat.le_refl _) dX11_count_126
                  · refine ya_tswOut 127 (ya_out [0, 1, 2, 3, 4, 5, 6, 7, 8] (List.forall_mem_cons.mpr ⟨n1_0, (List.forall_mem_cons.mpr ⟨n1_1, (List.forall_mem_cons.mpr ⟨n1_2, (List.forall_mem_cons.mpr ⟨n1_3, (List.forall_mem_cons.mpr ⟨n1_4, (List.forall_mem_cons.mpr ⟨n1_5, (List.forall_mem_cons.mpr ⟨n1_6, (List.forall_mem_cons.mpr ⟨n1_7, (List.forall_mem_cons.mpr ⟨n1_8, (fun _ hq => absurd hq List.not_mem_nil)⟩)⟩)⟩)⟩)⟩)⟩)⟩)⟩)⟩) (by decide)) (by decide) dX11_count_1 ?_
                    refine ya_iconst (-1) (by decide) dX11_count_127 ?_
                    cases h
                    exact ya_iret rfl rfl rfl rfl rfl (Nat.le_refl _) dX11_count_128
set_option maxRecDepth 20000 in
theorem c_X11_image {X : ya_X} {G : ya_G} {v1 : Int32} {d : ya_D} {rr : (Int32 × ya_D)} (hG : ya_Bk ya_sh ya_ln G 0) (hdy : ya_Dy G) (h : f_X11_image G v1 d = some rr) : ya_Ct X yX11_image Y_X11_image [.ref (X.2.1 + 0), .int v1] G d (some (.int rr.1), G, rr.2) := by
  refine ya_ct (by decide +kernel) rfl rfl (Nat.le_of_ble_eq_true rfl) ?_
  unfold f_X11_image at h
  show ya_E X Y_X11_image (ya_M X (some (.int rr.1), G, rr.2) 0 0) 0 [(0, .ref (X.2.1 + 0)), (1, .int v1)] [] G d 0 0
  refine ya_iload_n 1 rfl dX11_image_0 ?_
  refine ya_iconst 0 (by decide) dX11_image_1 ?_
  refine ya_iconst 2 (by decide) dX11_image_2 ?_
  obtain ⟨x3, e3, h⟩ := ya_ob h
  refine ya_callSi (S := []) (c_X11_within hG e3) m_X11_within ⟨rfl, rfl⟩ ml_X11_213 rfl ⟨Nat.le_of_ble_eq_true rfl, Nat.le_of_ble_eq_true rfl⟩ (Nat.le_of_ble_eq_true rfl) ⟨Nat.le_refl _, Nat.le_refl _⟩ dX11_image_3 rfl ?_
  refine ya_ifne 12 (by decide) dX11_image_6 (fun c => ?_) (fun c => ?_)
  · replace h := ya_itef h c
    refine ya_aload_n 0 rfl dX11_image_12 ?_
    refine ya_getR fo_X11_54 (hG.o0 0 rfl) (hG.lt0 0 (by decide)) (hG.l0 80 rfl) dX11_image_13 ?_
    refine ya_iload_n 1 rfl dX11_image_16 ?_
    refine ya_lkb (C := "YearAgo$Market") (hG.s0 81 rfl) (by decide) (by decide) rfl (hG.lt0 81 (by decide)) dX11_image_17 h (fun h => ?_) (fun q17 hq h => ?_)
    · refine ya_ifnonnullN dX11_image_18 ?_
      refine ya_aload_n 0 rfl dX11_image_21 ?_
      refine ya_getR fo_X11_54 (hG.o0 0 rfl) (hG.lt0 0 (by decide)) (hG.l0 80 rfl) dX11_image_22 ?_
      refine ya_iload_n 1 rfl dX11_image_25 ?_
      cases h
    · have h_q17 := hdy.1 _ _ hq
      refine ya_ifnonnull 34 (by decide) dX11_image_18 ?_
      refine ya_aload_n 0 rfl dX11_image_34 ?_
      refine ya_getR fo_X11_54 (hG.o0 0 rfl) (hG.lt0 0 (by decide)) (hG.l0 80 rfl) dX11_image_35 ?_
      refine ya_iload_n 1 rfl dX11_image_38 ?_
      refine ya_lkb (C := "YearAgo$Market") (hG.s0 81 rfl) (by decide) (by decide) rfl (hG.lt0 81 (by decide)) dX11_image_39 h (fun h => ?_) (fun q39 hq h => ?_)
      · refine ya_aload_n 0 rfl dX11_image_40 ?_
        refine ya_getR fo_X11_26 (hG.o0 0 rfl) (hG.lt0 0 (by decide)) (hG.l0 40 rfl) dX11_image_41 ?_
        cases h
      · have h_q39 := hdy.1 _ _ hq
        refine ya_aload_n 0 rfl dX11_image_40 ?_
        refine ya_getR fo_X11_26 (hG.o0 0 rfl) (hG.lt0 0 (by decide)) (hG.l0 40 rfl) dX11_image_41 ?_
        obtain ⟨d44, e44, h⟩ := ya_ob h
        refine ya_callVv (S := []) (c_X2_take hG h_q39 (bk_0_24 hG) e44) m_X2_take ⟨rfl, rfl⟩ ml_X11_83 rfl ⟨Nat.le_of_ble_eq_true rfl, Nat.le_of_ble_eq_true rfl⟩ (Nat.le_of_ble_eq_true rfl) (h_q39.lt 0 (by decide)) (h_q39.o 0 rfl) (by decide) rfl rfl ⟨Nat.le_refl _, Nat.le_refl _⟩ dX11_image_44 rfl ?_
        refine ya_iconst 0 (by decide) dX11_image_47 ?_
        cases h
        exact ya_iret rfl rfl rfl rfl rfl (Nat.le_refl _) dX11_image_48
  · replace h := ya_itet h c
    refine ya_bipush (-2) (by decide) dX11_image_9 ?_
    cases h
    exact ya_iret rfl rfl rfl rfl rfl (Nat.le_refl _) dX11_image_11
set_option maxRecDepth 20000 in
theorem c_X11_restore {X : ya_X} {G : ya_G} {v1 : Int32} {d : ya_D} {rr : (Int32 × ya_D)} (hG : ya_Bk ya_sh ya_ln G 0) (hdy : ya_Dy G) (h : f_X11_restore G v1 d = some rr) : ya_Ct X yX11_restore Y_X11_restore [.ref (X.2.1 + 0), .int v1] G d (some (.int rr.1), G, rr.2) := by
  refine ya_ct (by decide +kernel) rfl rfl (Nat.le_of_ble_eq_true rfl) ?_
  unfold f_X11_restore at h
  show ya_E X Y_X11_restore (ya_M X (some (.int rr.1), G, rr.2) 0 0) 0 [(0, .ref (X.2.1 + 0)), (1, .int v1)] [] G d 0 0
  refine ya_iload_n 1 rfl dX11_restore_0 ?_
  refine ya_iconst 0 (by decide) dX11_restore_1 ?_
  refine ya_iconst 2 (by decide) dX11_restore_2 ?_
  obtain ⟨x3, e3, h⟩ := ya_ob h
  refine ya_callSi (S := []) (c_X11_within hG e3) m_X11_within ⟨rfl, rfl⟩ ml_X11_213 rfl ⟨Nat.le_of_ble_eq_true rfl, Nat.le_of_ble_eq_true rfl⟩ (Nat.le_of_ble_eq_true rfl) ⟨Nat.le_refl _, Nat.le_refl _⟩ dX11_restore_3 rfl ?_
  refine ya_ifne 12 (by decide) dX11_restore_6 (fun c => ?_) (fun c => ?_)
  · replace h := ya_itef h c
    refine ya_aload_n 0 rfl dX11_restore_12 ?_
    refine ya_getR fo_X11_54 (hG.o0 0 rfl) (hG.lt0 0 (by decide)) (hG.l0 80 rfl) dX11_restore_13 ?_
    refine ya_iload_n 1 rfl dX11_restore_16 ?_
    refine ya_lkb (C := "YearAgo$Market") (hG.s0 81 rfl) (by decide) (by decide) rfl (hG.lt0 81 (by decide)) dX11_restore_17 h (fun h => ?_) (fun q17 hq h => ?_)
    · refine ya_ifnonnullN dX11_restore_18 ?_
      refine ya_bipush (-6) (by decide) dX11_restore_21 ?_
      cases h
      exact ya_iret rfl rfl rfl rfl rfl (Nat.le_refl _) dX11_restore_23
    · have h_q17 := hdy.1 _ _ hq
      refine ya_ifnonnull 24 (by decide) dX11_restore_18 ?_
      refine ya_aload_n 0 rfl dX11_restore_24 ?_
      refine ya_getR fo_X11_26 (hG.o0 0 rfl) (hG.lt0 0 (by decide)) (hG.l0 40 rfl) dX11_restore_25 ?_
      refine ya_aload_n 0 rfl dX11_restore_28 ?_
      refine ya_getR fo_X11_54 (hG.o0 0 rfl) (hG.lt0 0 (by decide)) (hG.l0 80 rfl) dX11_restore_29 ?_
      refine ya_iload_n 1 rfl dX11_restore_32 ?_
      refine ya_lkb (C := "YearAgo$Market") (hG.s0 81 rfl) (by decide) (by decide) rfl (hG.lt0 81 (by decide)) dX11_restore_33 h (fun h => ?_) (fun q33 hq h => ?_)
      · cases h
      · have h_q33 := hdy.1 _ _ hq
        obtain ⟨d34, e34, h⟩ := ya_ob h
        refine ya_callVv (S := []) (c_X2_take hG (bk_0_24 hG) h_q33 e34) m_X2_take ⟨rfl, rfl⟩ ml_X11_83 rfl ⟨Nat.le_of_ble_eq_true rfl, Nat.le_of_ble_eq_true rfl⟩ (Nat.le_of_ble_eq_true rfl) (hG.lt0 24 (by decide)) (hG.o0 24 rfl) (by decide) rfl rfl ⟨Nat.le_refl _, Nat.le_refl _⟩ dX11_restore_34 rfl ?_
        refine ya_aload_n 0 rfl dX11_restore_37 ?_
        refine ya_iconst 0 (by decide) dX11_restore_38 ?_
        refine ya_putIb fo_X11_64 (hG.o0 0 rfl) (hG.lt0 0 (by decide)) .boolean pf_X11_9 (by decide) rfl dX11_restore_39 h (fun d39 h => ?_)
        refine ya_iconst 0 (by decide) dX11_restore_42 ?_
        cases h
        exact ya_iret rfl rfl rfl rfl rfl (Nat.le_refl _) dX11_restore_43
  · replace h := ya_itet h c
    refine ya_bipush (-2) (by decide) dX11_restore_9 ?_
    cases h
    exact ya_iret rfl rfl rfl rfl rfl (Nat.le_refl _) dX11_restore_11
set_option maxRecDepth 20000 in
theorem c_X11_row {X : ya_X} {G : ya_G} {v1 : Int32} {v2 : Int32} {v3 : Int32} {d : ya_D} {rr : (Int32 × ya_D)} (hG : ya_Bk ya_sh ya_ln G 0) (hdy : ya_Dy G) (h : f_X11_row G v1 v2 v3 d = some rr) : ya_Ct X yX11_row Y_X11_row [.ref (X.2.1 + 0), .int v1, .int v2, .int v3] G d (some (.int rr.1), G, rr.2) := by
  refine ya_ct (by decide +kernel) rfl rfl (Nat.le_of_ble_eq_true rfl) ?_
  unfold f_X11_row at h
  show ya_E X Y_X11_row (ya_M X (some (.int rr.1), G, rr.2) 0 0) 0 [(0, .ref (X.2.1 + 0)), (1, .int v1), (2, .int v2), (3, .int v3)] [] G d 0 0
  refine ya_iload_n 1 rfl dX11_row_0 ?_
  obtain ⟨x1, e1, h⟩ := ya_ob h
  refine ya_callSi (S := []) (c_X11_isSlot hG e1) m_X11_isSlot ⟨rfl, rfl⟩ ml_X11_347 rfl ⟨Nat.le_of_ble_eq_true rfl, Nat.le_of_ble_eq_true rfl⟩ (Nat.le_of_ble_eq_true rfl) ⟨Nat.le_refl _, Nat.le_refl _⟩ dX11_row_1 rfl ?_
  refine ya_j0_s h (ya_E X Y_X11_row (ya_M X (some (.int rr.1), G, rr.2) 0 0) 22 [] [] G d 0 0) (fun h => ?_) (fun k22 hk22 h => ?_)
  · refine ya_bipush (-2) (by decide) dX11_row_22 ?_
    cases h
    exact ya_iret rfl rfl rfl rfl rfl (Nat.le_refl _) dX11_row_24
  · refine ya_ifeq 22 (by decide) dX11_row_4 (fun c => ?_) (fun c => ?_)
    · replace h := ya_itet h c
      refine ya_sub [] [] rfl ?_
      exact hk22  h
    · replace h := ya_itef h c
      refine ya_iload_n 2 rfl dX11_row_7 ?_
      refine ya_iconst 0 (by decide) dX11_row_8 ?_
      refine ya_iconst 3 (by decide) dX11_row_9 ?_
      obtain ⟨x10, e10, h⟩ := ya_ob h
      refine ya_callSi (S := []) (c_X11_within hG e10) m_X11_within ⟨rfl, rfl⟩ ml_X11_213 rfl ⟨Nat.le_of_ble_eq_true rfl, Nat.le_of_ble_eq_true rfl⟩ (Nat.le_of_ble_eq_true rfl) ⟨Nat.le_refl _, Nat.le_refl _⟩ dX11_row_10 rfl ?_
      refine ya_ifeq 22 (by decide) dX11_row_13 (fun c => ?_) (fun c => ?_)
      · replace h := ya_itet h c
        refine ya_sub [] [] rfl ?_
        exact hk22  h
      · replace h := ya_itef h c
        refine ya_iload_n 3 rfl dX11_row_16 ?_
        refine ya_bipush 60 (by decide) dX11_row_17 ?_
        refine ya_icmp_le 25 (by decide) dX11_row_19 (fun c => ?_) (fun c => ?_)
        · replace h := ya_itet h c
          refine ya_iload_n 3 rfl dX11_row_25 ?_
          refine ya_ifge 32 (by decide) dX11_row_26 (fun c => ?_) (fun c => ?_)
          · replace h := ya_itet h c
            refine ya_aload_n 0 rfl dX11_row_32 ?_
            refine ya_getR fo_X11_60 (hG.o0 0 rfl) (hG.lt0 0 (by decide)) (hG.l0 81 rfl) dX11_row_33 ?_
            refine ya_iload_n 1 rfl dX11_row_36 ?_
            refine ya_lkb (C := "YearAgo$Row") (hG.s0 82 rfl) (by decide) (by decide) rfl (hG.lt0 82 (by decide)) dX11_row_37 h (fun h => ?_) (fun q37 hq h => ?_)
            · refine ya_ifnonnullN dX11_row_38 ?_
              refine ya_aload_n 0 rfl dX11_row_41 ?_
              refine ya_getR fo_X11_60 (hG.o0 0 rfl) (hG.lt0 0 (by decide)) (hG.l0 81 rfl) dX11_row_42 ?_
              refine ya_iload_n 1 rfl dX11_row_45 ?_
              cases h
            · have h_q37 := hdy.2 _ _ hq
              refine ya_ifnonnull 54 (by decide) dX11_row_38 ?_
              refine ya_aload_n 0 rfl dX11_row_54 ?_
              refine ya_getR fo_X11_60 (hG.o0 0 rfl) (hG.lt0 0 (by decide)) (hG.l0 81 rfl) dX11_row_55 ?_
              refine ya_iload_n 1 rfl dX11_row_58 ?_
              refine ya_lkb (C := "YearAgo$Row") (hG.s0 82 rfl) (by decide) (by decide) rfl (hG.lt0 82 (by decide)) dX11_row_59 h (fun h => ?_) (fun q59 hq h => ?_)
              · refine ya_iload_n 2 rfl dX11_row_60 ?_
                refine ya_iload_n 3 rfl dX11_row_61 ?_
                cases h
              · have h_q59 := hdy.2 _ _ hq
                refine ya_iload_n 2 rfl dX11_row_60 ?_
                refine ya_iload_n 3 rfl dX11_row_61 ?_
                obtain ⟨d62, e62, h⟩ := ya_ob h
                refine ya_callVv (S := []) (c_X4_begin hG h_q59 e62) m_X4_begin ⟨rfl, rfl⟩ ml_X11_351 rfl ⟨Nat.le_of_ble_eq_true rfl, Nat.le_of_ble_eq_true rfl⟩ (Nat.le_of_ble_eq_true rfl) (h_q59.lt 0 (by decide)) (h_q59.o 0 rfl) (by decide) rfl rfl ⟨Nat.le_refl _, Nat.le_refl _⟩ dX11_row_62 rfl ?_
                refine ya_iconst 0 (by decide) dX11_row_65 ?_
                cases h
                exact ya_iret rfl rfl rfl rfl rfl (Nat.le_refl _) dX11_row_66
          · replace h := ya_itef h c
            refine ya_bipush (-3) (by decide) dX11_row_29 ?_
            cases h
            exact ya_iret rfl rfl rfl rfl rfl (Nat.le_refl _) dX11_row_31
        · replace h := ya_itef h c
          refine ya_sub [] [] rfl ?_
          exact hk22  h
set_option maxRecDepth 20000 in
theorem c_X11_write {X : ya_X} {G : ya_G} {v1 : Int32} {v2 : Int32} {v3 : Int64} {d : ya_D} {rr : (Int32 × ya_D)} (hG : ya_Bk ya_sh ya_ln G 0) (hdy : ya_Dy G) (h : f_X11_write G v1 v2 v3 d = some rr) : ya_Ct X yX11_write Y_X11_write [.ref (X.2.1 + 0), .int v1, .int v2, .long v3] G d (some (.int rr.1), G, rr.2) := by
  refine ya_ct (by decide +kernel) rfl rfl (Nat.le_of_ble_eq_true rfl) ?_
  unfold f_X11_write at h
  show ya_E X Y_X11_write (ya_M X (some (.int rr.1), G, rr.2) 0 0) 0 [(0, .ref (X.2.1 + 0)), (1, .int v1), (2, .int v2), (3, .long v3)] [] G d 0 0
  refine ya_iload_n 1 rfl dX11_write_0 ?_
  obtain ⟨x1, e1, h⟩ := ya_ob h
  refine ya_callSi (S := []) (c_X11_isSlot hG e1) m_X11_isSlot ⟨rfl, rfl⟩ ml_X11_347 rfl ⟨Nat.le_of_ble_eq_true rfl, Nat.le_of_ble_eq_true rfl⟩ (Nat.le_of_ble_eq_true rfl) ⟨Nat.le_refl _, Nat.le_refl _⟩ dX11_write_1 rfl ?_
  refine ya_ifne 10 (by decide) dX11_write_4 (fun c => ?_) (fun c => ?_)
  · replace h := ya_itef h c
    refine ya_aload_n 0 rfl dX11_write_10 ?_
    refine ya_getR fo_X11_60 (hG.o0 0 rfl) (hG.lt0 0 (by decide)) (hG.l0 81 rfl) dX11_write_11 ?_
    refine ya_iload_n 1 rfl dX11_write_14 ?_
    refine ya_lkb (C := "YearAgo$Row") (hG.s0 82 rfl) (by decide) (by decide) rfl (hG.lt0 82 (by decide)) dX11_write_15 h (fun h => ?_) (fun q15 hq h => ?_)
    · refine ya_astoreN [(5, .null), (0, .ref (X.2.1 + 0)), (1, .int v1), (2, .int v2), (3, .long v3)] (by decide) rfl dX11_write_16 ?_
      refine ya_aloadN 0 rfl dX11_write_18 ?_
      refine ya_ifnonnullN dX11_write_20 ?_
      refine ya_bipush (-6) (by decide) dX11_write_23 ?_
      cases h
      exact ya_iret rfl rfl rfl rfl rfl (Nat.le_refl _) dX11_write_25
    · have h_q15 := hdy.2 _ _ hq
      refine ya_astore [(5, .ref (X.2.1 + q15)), (0, .ref (X.2.1 + 0)), (1, .int v1), (2, .int v2), (3, .long v3)] (by decide) rfl dX11_write_16 ?_
      refine ya_aload 0 rfl dX11_write_18 ?_
      refine ya_ifnonnull 26 (by decide) dX11_write_20 ?_
      refine ya_iload_n 3 rfl dX11_write_26 ?_
      refine ya_j0_s h (ya_E X Y_X11_write (ya_M X (some (.int rr.1), G, rr.2) 0 0) 39 [] [] G d 0 0) (fun h => ?_) (fun k39 hk39 h => ?_)
      · refine ya_bipush (-7) (by decide) dX11_write_39 ?_
        cases h
        exact ya_iret rfl rfl rfl rfl rfl (Nat.le_refl _) dX11_write_41
      · refine ya_iflt 39 (by decide) dX11_write_27 (fun c => ?_) (fun c => ?_)
        · replace h := ya_itet h c
          refine ya_sub [] [] rfl ?_
          exact hk39  h
        · replace h := ya_itef h c
          refine ya_iload_n 3 rfl dX11_write_30 ?_
          refine ya_aload 0 rfl dX11_write_31 ?_
          refine ya_getI fo_X11_332 (h_q15.o 0 rfl) (h_q15.lt 0 (by decide)) dX11_write_33 ?_
          refine ya_icmp_lt 42 (by decide) dX11_write_36 (fun c => ?_) (fun c => ?_)
          · replace h := ya_itet h c
            refine ya_aload 0 rfl dX11_write_42 ?_
            refine ya_iload_n 3 rfl dX11_write_44 ?_
            refine ya_lload_n 4 rfl dX11_write_45 ?_
            obtain ⟨d46, e46, h⟩ := ya_ob h
            refine ya_callVv (S := []) (c_X4_put hG h_q15 e46) m_X4_put ⟨rfl, rfl⟩ ml_X11_355 rfl ⟨Nat.le_of_ble_eq_true rfl, Nat.le_of_ble_eq_true rfl⟩ (Nat.le_of_ble_eq_true rfl) (h_q15.lt 0 (by decide)) (h_q15.o 0 rfl) (by decide) rfl rfl ⟨Nat.le_refl _, Nat.le_refl _⟩ dX11_write_46 rfl ?_
            refine ya_iconst 0 (by decide) dX11_write_49 ?_
            cases h
            exact ya_iret rfl rfl rfl rfl rfl (Nat.le_refl _) dX11_write_50
          · replace h := ya_itef h c
            refine ya_sub [] [] rfl ?_
            exact hk39  h
  · replace h := ya_itet h c
    refine ya_bipush (-2) (by decide) dX11_write_7 ?_
    cases h
    exact ya_iret rfl rfl rfl rfl rfl (Nat.le_refl _) dX11_write_9
set_option maxRecDepth 20000 in
theorem c_X11_paste {X : ya_X} {G : ya_G} {v1 : Int32} {v2 : Int32} {v3 : Int32} {v4 : Int32} {v5 : Int32} {d : ya_D} {rr : (Int32 × ya_D)} (hG : ya_Bk ya_sh ya_ln G 0) (hdy : ya_Dy G) (h : f_X11_paste G v1 v2 v3 v4 v5 d = some rr) : ya_Ct X yX11_paste Y_X11_paste [.ref (X.2.1 + 0), .int v1, .int v2, .int v3, .int v4, .int v5] G d (some (.int rr.1), G, rr.2) := by
  refine ya_ct (by decide +kernel) rfl rfl (Nat.le_of_ble_eq_true rfl) ?_
  unfold f_X11_paste at h
  show ya_E X Y_X11_paste (ya_M X (some (.int rr.1), G, rr.2) 0 0) 0 [(0, .ref (X.2.1 + 0)), (1, .int v1), (2, .int v2), (3, .int v3), (4, .int v4), (5, .int v5)] [] G d 0 0
  refine ya_iload_n 1 rfl dX11_paste_0 ?_
  obtain ⟨x1, e1, h⟩ := ya_ob h
  refine ya_callSi (S := []) (c_X11_isSlot hG e1) m_X11_isSlot ⟨rfl, rfl⟩ ml_X11_347 rfl ⟨Nat.le_of_ble_eq_true rfl, Nat.le_of_ble_eq_true rfl⟩ (Nat.le_of_ble_eq_true rfl) ⟨Nat.le_refl _, Nat.le_refl _⟩ dX11_paste_1 rfl ?_
  refine ya_j0_s h (ya_E X Y_X11_paste (ya_M X (some (.int rr.1), G, rr.2) 0 0) 14 [] [] G d 0 0) (fun h => ?_) (fun k14 hk14 h => ?_)
  · refine ya_bipush (-2) (by decide) dX11_paste_14 ?_
    cases h
    exact ya_iret rfl rfl rfl rfl rfl (Nat.le_refl _) dX11_paste_16
  · refine ya_ifeq 14 (by decide) dX11_paste_4 (fun c => ?_) (fun c => ?_)
    · replace h := ya_itet h c
      refine ya_sub [] [] rfl ?_
      exact hk14  h
    · replace h := ya_itef h c
      refine ya_iload_n 3 rfl dX11_paste_7 ?_
      obtain ⟨x8, e8, h⟩ := ya_ob h
      refine ya_callSi (S := []) (c_X11_isSlot hG e8) m_X11_isSlot ⟨rfl, rfl⟩ ml_X11_347 rfl ⟨Nat.le_of_ble_eq_true rfl, Nat.le_of_ble_eq_true rfl⟩ (Nat.le_of_ble_eq_true rfl) ⟨Nat.le_refl _, Nat.le_refl _⟩ dX11_paste_8 rfl ?_
      refine ya_ifne 17 (by decide) dX11_paste_11 (fun c => ?_) (fun c => ?_)
      · replace h := ya_itef h c
        refine ya_aload_n 0 rfl dX11_paste_17 ?_
        refine ya_getR fo_X11_60 (hG.o0 0 rfl) (hG.lt0 0 (by decide)) (hG.l0 81 rfl) dX11_paste_18 ?_
        refine ya_iload_n 1 rfl dX11_paste_21 ?_
        refine ya_lkb (C := "YearAgo$Row") (hG.s0 82 rfl) (by decide) (by decide) rfl (hG.lt0 82 (by decide)) dX11_paste_22 h (fun h => ?_) (fun q22 hq h => ?_)
        · refine ya_astoreN [(6, .null), (0, .ref (X.2.1 + 0)), (1, .int v1), (2, .int v2), (3, .int v3), (4, .int v4), (5, .int v5)] (by decide) rfl dX11_paste_23 ?_
          refine ya_aload_n 1 rfl dX11_paste_25 ?_
          refine ya_getR fo_X11_60 (hG.o0 0 rfl) (hG.lt0 0 (by decide)) (hG.l0 81 rfl) dX11_paste_26 ?_
          refine ya_iload_n 4 rfl dX11_paste_29 ?_
          refine ya_lkb (C := "YearAgo$Row") (hG.s0 82 rfl) (by decide) (by decide) rfl (hG.lt0 82 (by decide)) dX11_paste_30 h (fun h => ?_) (fun q30 hq h => ?_)
          · refine ya_astoreN [(7, .null), (6, .null), (0, .ref (X.2.1 + 0)), (1, .int v1), (2, .int v2), (3, .int v3), (4, .int v4), (5, .int v5)] (by decide) rfl dX11_paste_31 ?_
            refine ya_aloadN 1 rfl dX11_paste_33 ?_
            refine ya_ifnullN 43 (by decide) dX11_paste_35 ?_
            refine ya_bipush (-6) (by decide) dX11_paste_43 ?_
            cases h
            exact ya_iret rfl rfl rfl rfl rfl (Nat.le_refl _) dX11_paste_45
          · have h_q30 := hdy.2 _ _ hq
            refine ya_astore [(7, .ref (X.2.1 + q30)), (6, .null), (0, .ref (X.2.1 + 0)), (1, .int v1), (2, .int v2), (3, .int v3), (4, .int v4), (5, .int v5)] (by decide) rfl dX11_paste_31 ?_
            refine ya_aloadN 1 rfl dX11_paste_33 ?_
            refine ya_ifnullN 43 (by decide) dX11_paste_35 ?_
            refine ya_bipush (-6) (by decide) dX11_paste_43 ?_
            cases h
            exact ya_iret rfl rfl rfl rfl rfl (Nat.le_refl _) dX11_paste_45
        · have h_q22 := hdy.2 _ _ hq
          refine ya_astore [(6, .ref (X.2.1 + q22)), (0, .ref (X.2.1 + 0)), (1, .int v1), (2, .int v2), (3, .int v3), (4, .int v4), (5, .int v5)] (by decide) rfl dX11_paste_23 ?_
          refine ya_aload_n 1 rfl dX11_paste_25 ?_
          refine ya_getR fo_X11_60 (hG.o0 0 rfl) (hG.lt0 0 (by decide)) (hG.l0 81 rfl) dX11_paste_26 ?_
          refine ya_iload_n 4 rfl dX11_paste_29 ?_
          refine ya_lkb (C := "YearAgo$Row") (hG.s0 82 rfl) (by decide) (by decide) rfl (hG.lt0 82 (by decide)) dX11_paste_30 h (fun h => ?_) (fun q30 hq h => ?_)
          · refine ya_astoreN [(7, .null), (6, .ref (X.2.1 + q22)), (0, .ref (X.2.1 + 0)), (1, .int v1), (2, .int v2), (3, .int v3), (4, .int v4), (5, .int v5)] (by decide) rfl dX11_paste_31 ?_
            refine ya_aload 1 rfl dX11_paste_33 ?_
            refine ya_ifnull dX11_paste_35 ?_
            refine ya_aloadN 0 rfl dX11_paste_38 ?_
            refine ya_ifnonnullN dX11_paste_40 ?_
            refine ya_bipush (-6) (by decide) dX11_paste_43 ?_
            cases h
            exact ya_iret rfl rfl rfl rfl rfl (Nat.le_refl _) dX11_paste_45
          · have h_q30 := hdy.2 _ _ hq
            refine ya_astore [(7, .ref (X.2.1 + q30)), (6, .ref (X.2.1 + q22)), (0, .ref (X.2.1 + 0)), (1, .int v1), (2, .int v2), (3, .int v3), (4, .int v4), (5, .int v5)] (by decide) rfl dX11_paste_31 ?_
            refine ya_aload 1 rfl dX11_paste_33 ?_
            refine ya_ifnull dX11_paste_35 ?_
            refine ya_aload 0 rfl dX11_paste_38 ?_
            refine ya_ifnonnull 46 (by decide) dX11_paste_40 ?_
            refine ya_aload 1 rfl dX11_paste_46 ?_
            refine ya_getI fo_X11_359 (h_q22.o 0 rfl) (h_q22.lt 0 (by decide)) dX11_paste_48 ?_
            refine ya_aload 0 rfl dX11_paste_51 ?_
            refine ya_getI fo_X11_359 (h_q30.o 0 rfl) (h_q30.lt 0 (by decide)) dX11_paste_53 ?_
            refine ya_icmp_eq 62 (by decide) dX11_paste_56 (fun c => ?_) (fun c => ?_)
            · replace h := ya_itet h c
              refine ya_aload 1 rfl dX11_paste_62 ?_
              refine ya_iload_n 4 rfl dX11_paste_64 ?_
              refine ya_iload 7 rfl dX11_paste_65 ?_
              obtain ⟨x67, e67, h⟩ := ya_ob h
              refine ya_callVi (S := []) (c_X4_reaches hG h_q22 e67) m_X4_reaches ⟨rfl, rfl⟩ ml_X11_362 rfl ⟨Nat.le_of_ble_eq_true rfl, Nat.le_of_ble_eq_true rfl⟩ (Nat.le_of_ble_eq_true rfl) (h_q22.lt 0 (by decide)) (h_q22.o 0 rfl) (by decide) rfl rfl ⟨Nat.le_refl _, Nat.le_refl _⟩ dX11_paste_67 rfl ?_
              refine ya_j0_s h (ya_E X Y_X11_paste (ya_M X (some (.int rr.1), G, rr.2) 0 0) 85 [] [] G d 0 0) (fun h => ?_) (fun k85 hk85 h => ?_)
              · refine ya_bipush (-7) (by decide) dX11_paste_85 ?_
                cases h
                exact ya_iret rfl rfl rfl rfl rfl (Nat.le_refl _) dX11_paste_87
              · refine ya_ifeq 85 (by decide) dX11_paste_70 (fun c => ?_) (fun c => ?_)
                · replace h := ya_itet h c
                  refine ya_sub [] [] rfl ?_
                  exact hk85  h
                · replace h := ya_itef h c
                  refine ya_aload 0 rfl dX11_paste_73 ?_
                  refine ya_iload 6 rfl dX11_paste_75 ?_
                  refine ya_iload 7 rfl dX11_paste_77 ?_
                  obtain ⟨x79, e79, h⟩ := ya_ob h
                  refine ya_callVi (S := []) (c_X4_reaches hG h_q30 e79) m_X4_reaches ⟨rfl, rfl⟩ ml_X11_362 rfl ⟨Nat.le_of_ble_eq_true rfl, Nat.le_of_ble_eq_true rfl⟩ (Nat.le_of_ble_eq_true rfl) (h_q30.lt 0 (by decide)) (h_q30.o 0 rfl) (by decide) rfl rfl ⟨Nat.le_refl _, Nat.le_refl _⟩ dX11_paste_79 rfl ?_
                  refine ya_ifne 88 (by decide) dX11_paste_82 (fun c => ?_) (fun c => ?_)
                  · replace h := ya_itef h c
                    refine ya_aload 1 rfl dX11_paste_88 ?_
                    refine ya_getR fo_X11_333 (h_q22.o 0 rfl) (h_q22.lt 0 (by decide)) (h_q22.l 0 rfl) dX11_paste_90 ?_
                    refine ya_iload_n 4 rfl dX11_paste_93 ?_
                    refine ya_aload 0 rfl dX11_paste_94 ?_
                    refine ya_getR fo_X11_333 (h_q30.o 0 rfl) (h_q30.lt 0 (by decide)) (h_q30.l 0 rfl) dX11_paste_96 ?_
                    refine ya_iload 6 rfl dX11_paste_99 ?_
                    refine ya_iload 7 rfl dX11_paste_101 ?_
                    refine ya_copyL (h_q22.s 1 rfl) (h_q22.lt 1 (by decide)) (h_q30.s 1 rfl) (h_q30.lt 1 (by decide)) ml_X11_365 wm_cp1 wm_cp2 wm_cp3 (by decide) (Nat.le_of_ble_eq_true rfl) dX11_paste_103 h (fun d103 h => ?_)
                    refine ya_iconst 0 (by decide) dX11_paste_106 ?_
                    cases h
                    exact ya_iret rfl rfl rfl rfl rfl (Nat.le_refl _) dX11_paste_107
                  · replace h := ya_itet h c
                    refine ya_sub [] [] rfl ?_
                    exact hk85  h
            · replace h := ya_itef h c
              refine ya_bipush (-8) (by decide) dX11_paste_59 ?_
              cases h
              exact ya_iret rfl rfl rfl rfl rfl (Nat.le_refl _) dX11_paste_61
      · replace h := ya_itet h c
        refine ya_sub [] [] rfl ?_
        exact hk14  h
set_option maxRecDepth 20000 in
theorem c_X12_in {X : ya_X} {G : ya_G} {v0 : Int64} {v2 : Int64} {v4 : Int64} {d : ya_D} {rr : Int32} (hG : ya_Bk ya_sh ya_ln G 0) (h : f_X12_in v0 v2 v4 = some rr) : ya_Ct X yX12_in Y_X12_in [.long v0, .long v2, .long v4] G d (some (.int rr), G, d) := by
  refine ya_ct (by decide +kernel) rfl rfl (Nat.le_of_ble_eq_true rfl) ?_
  unfold f_X12_in at h
  show ya_E X Y_X12_in (ya_M X (some (.int rr), G, d) 0 0) 0 [(0, .long v0), (2, .long v2), (4, .long v4)] [] G d 0 0
  refine ya_lload_n 0 rfl dX12_in_0 ?_
  refine ya_lload_n 1 rfl dX12_in_1 ?_
  refine ya_j0_s h (ya_E X Y_X12_in (ya_M X (some (.int rr), G, d) 0 0) 17 [] [] G d 0 0) (fun h => ?_) (fun k17 hk17 h => ?_)
  · refine ya_iconst 0 (by decide) dX12_in_17 ?_
    cases h
    exact ya_zret .boolean rfl rfl rfl rfl (by decide) rfl (Nat.le_refl _) dX12_in_18
  · refine ya_lif_lt 17 (by decide) dX12_in_2 dX12_in_3 (fun c => ?_) (fun c => ?_)
    · replace h := ya_itet h c
      refine ya_sub [] [] rfl ?_
      exact hk17  h
    · replace h := ya_itef h c
      refine ya_lload_n 0 rfl dX12_in_6 ?_
      refine ya_lload 2 rfl dX12_in_7 ?_
      refine ya_lif_gt 17 (by decide) dX12_in_9 dX12_in_10 (fun c => ?_) (fun c => ?_)
      · replace h := ya_itet h c
        refine ya_sub [] [] rfl ?_
        exact hk17  h
      · replace h := ya_itef h c
        refine ya_iconst 1 (by decide) dX12_in_13 ?_
        refine ya_goto 18 (by decide) dX12_in_14 ?_
        cases h
        exact ya_zret .boolean rfl rfl rfl rfl (by decide) rfl (Nat.le_refl _) dX12_in_18
set_option maxRecDepth 20000 in
theorem w_X12_image_L17 {X : ya_X} {G : ya_G} {v1 : Int32} {rr : (Int32 × ya_D)} (hG : ya_Bk ya_sh ya_ln G 0) : ∀ (n : Nat) (v2 : Int32) (d : ya_D), f_X12_image_L17 v1 n v2 d = some rr → ya_E X Y_X12_image (ya_M X (some (.int rr.1), G, rr.2) 0 0) 17 [(0, .ref (X.2.1 + 83)), (1, .int v1), (2, .int v2)] [] G d 0 0 := by
  intro n
  induction n with
  | zero => intro v2 d h; cases h
  | succ n ih =>
    intro v2 d h
    rw [f_X12_image_L17] at h
    refine ya_iload_n 2 rfl dX12_image_17 ?_
    refine ya_sipush 468 (by decide) dX12_image_18 ?_
    refine ya_icmp_ge 48 (by decide) dX12_image_21 (fun c => ?_) (fun c => ?_)
    · replace h := ya_itet h c
      refine ya_aload_n 0 rfl dX12_image_48 ?_
      refine ya_getR fo_X12_16 (hG.o0 83 rfl) (hG.lt0 83 (by decide)) (hG.l0 84 rfl) dX12_image_49 ?_
      refine ya_iload_n 1 rfl dX12_image_52 ?_
      refine ya_iconst 1 (by decide) dX12_image_53 ?_
      refine ya_zast (hG.s0 86 rfl) (hG.lt0 86 (by decide)) dX12_image_54 h (fun d54 h => ?_)
      refine ya_iconst 0 (by decide) dX12_image_55 ?_
      cases h
      exact ya_iret rfl rfl rfl rfl rfl (Nat.le_refl _) dX12_image_56
    · replace h := ya_itef h c
      refine ya_aload_n 0 rfl dX12_image_24 ?_
      refine ya_getR fo_X12_13 (hG.o0 83 rfl) (hG.lt0 83 (by decide)) (hG.l0 83 rfl) dX12_image_25 ?_
      refine ya_sipush 468 (by decide) dX12_image_28 ?_
      refine ya_iload_n 1 rfl dX12_image_31 ?_
      refine ya_imul dX12_image_32 ?_
      refine ya_iload_n 2 rfl dX12_image_33 ?_
      refine ya_iadd dX12_image_34 ?_
      refine ya_aload_n 0 rfl dX12_image_35 ?_
      refine ya_getR fo_X12_9 (hG.o0 83 rfl) (hG.lt0 83 (by decide)) (hG.l0 82 rfl) dX12_image_36 ?_
      refine ya_iload_n 2 rfl dX12_image_39 ?_
      refine ya_iald (hG.s0 84 rfl) (hG.lt0 84 (by decide)) dX12_image_40 h (fun x40 h => ?_)
      refine ya_iast (hG.s0 85 rfl) (hG.lt0 85 (by decide)) dX12_image_41 h (fun d41 h => ?_)
      refine ya_iinc (v2 + 1) rfl 2 rfl [(2, .int (v2 + 1)), (0, .ref (X.2.1 + 83)), (1, .int v1)] (by decide) rfl dX12_image_42 ?_
      refine ya_goto 17 (by decide) dX12_image_45 ?_
      refine ya_sub [(0, .ref (X.2.1 + 83)), (1, .int v1), (2, .int (v2 + 1))] [1, 2, 0] rfl ?_
      exact ih _ _ h
set_option maxRecDepth 20000 in
theorem c_X12_image {X : ya_X} {G : ya_G} {v1 : Int32} {d : ya_D} {rr : (Int32 × ya_D)} (hG : ya_Bk ya_sh ya_ln G 0) (h : f_X12_image v1 d = some rr) : ya_Ct X yX12_image Y_X12_image [.ref (X.2.1 + 83), .int v1] G d (some (.int rr.1), G, rr.2) := by
  refine ya_ct (by decide +kernel) rfl rfl (Nat.le_of_ble_eq_true rfl) ?_
  unfold f_X12_image at h
  show ya_E X Y_X12_image (ya_M X (some (.int rr.1), G, rr.2) 0 0) 0 [(0, .ref (X.2.1 + 83)), (1, .int v1)] [] G d 0 0
  refine ya_iload_n 1 rfl dX12_image_0 ?_
  refine ya_i2l dX12_image_1 ?_
  refine ya_lconst 0 rfl dX12_image_2 ?_
  refine ya_ldc2 2 kc_X12_92 dX12_image_3 ?_
  obtain ⟨x6, e6, h⟩ := ya_ob h
  refine ya_callSi (S := []) (c_X12_in hG e6) m_X12_in ⟨rfl, rfl⟩ ml_X12_94 rfl ⟨Nat.le_of_ble_eq_true rfl, Nat.le_of_ble_eq_true rfl⟩ (Nat.le_of_ble_eq_true rfl) ⟨Nat.le_refl _, Nat.le_refl _⟩ dX12_image_6 rfl ?_
  refine ya_ifne 15 (by decide) dX12_image_9 (fun c => ?_) (fun c => ?_)
  · replace h := ya_itef h c
    refine ya_iconst 0 (by decide) dX12_image_15 ?_
    refine ya_istore_n [(2, .int 0), (0, .ref (X.2.1 + 83)), (1, .int v1)] (by decide) rfl dX12_image_16 ?_
    refine ya_sub [(0, .ref (X.2.1 + 83)), (1, .int v1), (2, .int 0)] [1, 2, 0] rfl ?_
    refine w_X12_image_L17 hG  ya_F _ _ h
  · replace h := ya_itet h c
    refine ya_bipush (-2) (by decide) dX12_image_12 ?_
    cases h
    exact ya_iret rfl rfl rfl rfl rfl (Nat.le_refl _) dX12_image_14
set_option maxRecDepth 20000 in
theorem w_X12_restore_L29 {X : ya_X} {G : ya_G} {v1 : Int32} {rr : (Int32 × ya_D)} (hG : ya_Bk ya_sh ya_ln G 0) : ∀ (n : Nat) (v2 : Int32) (d : ya_D), f_X12_restore_L29 v1 n v2 d = some rr → ya_E X Y_X12_restore (ya_M X (some (.int rr.1), G, rr.2) 0 0) 29 [(0, .ref (X.2.1 + 83)), (1, .int v1), (2, .int v2)] [] G d 0 0 := by
  intro n
  induction n with
  | zero => intro v2 d h; cases h
  | succ n ih =>
    intro v2 d h
    rw [f_X12_restore_L29] at h
    refine ya_iload_n 2 rfl dX12_restore_29 ?_
    refine ya_sipush 468 (by decide) dX12_restore_30 ?_
    refine ya_icmp_ge 60 (by decide) dX12_restore_33 (fun c => ?_) (fun c => ?_)
    · replace h := ya_itet h c
      refine ya_iconst 0 (by decide) dX12_restore_60 ?_
      cases h
      exact ya_iret rfl rfl rfl rfl rfl (Nat.le_refl _) dX12_restore_61
    · replace h := ya_itef h c
      refine ya_aload_n 0 rfl dX12_restore_36 ?_
      refine ya_getR fo_X12_9 (hG.o0 83 rfl) (hG.lt0 83 (by decide)) (hG.l0 82 rfl) dX12_restore_37 ?_
      refine ya_iload_n 2 rfl dX12_restore_40 ?_
      refine ya_aload_n 0 rfl dX12_restore_41 ?_
      refine ya_getR fo_X12_13 (hG.o0 83 rfl) (hG.lt0 83 (by decide)) (hG.l0 83 rfl) dX12_restore_42 ?_
      refine ya_sipush 468 (by decide) dX12_restore_45 ?_
      refine ya_iload_n 1 rfl dX12_restore_48 ?_
      refine ya_imul dX12_restore_49 ?_
      refine ya_iload_n 2 rfl dX12_restore_50 ?_
      refine ya_iadd dX12_restore_51 ?_
      refine ya_iald (hG.s0 85 rfl) (hG.lt0 85 (by decide)) dX12_restore_52 h (fun x52 h => ?_)
      refine ya_iast (hG.s0 84 rfl) (hG.lt0 84 (by decide)) dX12_restore_53 h (fun d53 h => ?_)
      refine ya_iinc (v2 + 1) rfl 2 rfl [(2, .int (v2 + 1)), (0, .ref (X.2.1 + 83)), (1, .int v1)] (by decide) rfl dX12_restore_54 ?_
      refine ya_goto 29 (by decide) dX12_restore_57 ?_
      refine ya_sub [(0, .ref (X.2.1 + 83)), (1, .int v1), (2, .int (v2 + 1))] [1, 2, 0] rfl ?_
      exact ih _ _ h
set_option maxRecDepth 20000 in
theorem c_X12_restore {X : ya_X} {G : ya_G} {v1 : Int32} {d : ya_D} {rr : (Int32 × ya_D)} (hG : ya_Bk ya_sh ya_ln G 0) (h : f_X12_restore v1 d = some rr) : ya_Ct X yX12_restore Y_X12_restore [.ref (X.2.1 + 83), .int v1] G d (some (.int rr.1), G, rr.2) := by
  refine ya_ct (by decide +kernel) rfl rfl (Nat.le_of_ble_eq_true rfl) ?_
  unfold f_X12_restore at h
  show ya_E X Y_X12_restore (ya_M X (some (.int rr.1), G, rr.2) 0 0) 0 [(0, .ref (X.2.1 + 83)), (1, .int v1)] [] G d 0 0
  refine ya_iload_n 1 rfl dX12_restore_0 ?_
  refine ya_i2l dX12_restore_1 ?_
  refine ya_lconst 0 rfl dX12_restore_2 ?_
  refine ya_ldc2 2 kc_X12_92 dX12_restore_3 ?_
  obtain ⟨x6, e6, h⟩ := ya_ob h
  refine ya_callSi (S := []) (c_X12_in hG e6) m_X12_in ⟨rfl, rfl⟩ ml_X12_94 rfl ⟨Nat.le_of_ble_eq_true rfl, Nat.le_of_ble_eq_true rfl⟩ (Nat.le_of_ble_eq_true rfl) ⟨Nat.le_refl _, Nat.le_refl _⟩ dX12_restore_6 rfl ?_
  refine ya_ifne 15 (by decide) dX12_restore_9 (fun c => ?_) (fun c => ?_)
  · replace h := ya_itef h c
    refine ya_aload_n 0 rfl dX12_restore_15 ?_
    refine ya_getR fo_X12_16 (hG.o0 83 rfl) (hG.lt0 83 (by decide)) (hG.l0 84 rfl) dX12_restore_16 ?_
    refine ya_iload_n 1 rfl dX12_restore_19 ?_
    refine ya_zald (hG.s0 86 rfl) (hG.lt0 86 (by decide)) dX12_restore_20 h (fun x20 h => ?_)
    refine ya_ifne 27 (by decide) dX12_restore_21 (fun c => ?_) (fun c => ?_)
    · replace h := ya_itef h c
      refine ya_iconst 0 (by decide) dX12_restore_27 ?_
      refine ya_istore_n [(2, .int 0), (0, .ref (X.2.1 + 83)), (1, .int v1)] (by decide) rfl dX12_restore_28 ?_
      refine ya_sub [(0, .ref (X.2.1 + 83)), (1, .int v1), (2, .int 0)] [1, 2, 0] rfl ?_
      refine w_X12_restore_L29 hG  ya_F _ _ h
    · replace h := ya_itet h c
      refine ya_bipush (-6) (by decide) dX12_restore_24 ?_
      cases h
      exact ya_iret rfl rfl rfl rfl rfl (Nat.le_refl _) dX12_restore_26
  · replace h := ya_itet h c
    refine ya_bipush (-2) (by decide) dX12_restore_12 ?_
    cases h
    exact ya_iret rfl rfl rfl rfl rfl (Nat.le_refl _) dX12_restore_14
set_option maxRecDepth 20000 in
theorem c_X12_isMarket {X : ya_X} {G : ya_G} {d : ya_D} {rr : Int32} (hG : ya_Bk ya_sh ya_ln G 0) (h : f_X12_isMarket d = some rr) : ya_Ct X yX12_isMarket Y_X12_isMarket [.ref (X.2.1 + 83)] G d (some (.int rr), G, d) := by
  refine ya_ct (by decide +kernel) rfl rfl (Nat.le_of_ble_eq_true rfl) ?_
  unfold f_X12_isMarket at h
  show ya_E X Y_X12_isMarket (ya_M X (some (.int rr), G, d) 0 0) 0 [(0, .ref (X.2.1 + 83))] [] G d 0 0
  refine ya_aload_n 0 rfl dX12_isMarket_0 ?_
  refine ya_getR fo_X12_9 (hG.o0 83 rfl) (hG.lt0 83 (by decide)) (hG.l0 82 rfl) dX12_isMarket_1 ?_
  refine ya_iconst 0 (by decide) dX12_isMarket_4 ?_
  refine ya_iald (hG.s0 84 rfl) (hG.lt0 84 (by decide)) dX12_isMarket_5 h (fun x5 h => ?_)
  refine ya_ifle 13 (by decide) dX12_isMarket_6 (fun c => ?_) (fun c => ?_)
  · replace h := ya_itet h c
    refine ya_iconst 0 (by decide) dX12_isMarket_13 ?_
    cases h
    exact ya_zret .boolean rfl rfl rfl rfl (by decide) rfl (Nat.le_refl _) dX12_isMarket_14
  · replace h := ya_itef h c
    refine ya_iconst 1 (by decide) dX12_isMarket_9 ?_
    refine ya_goto 14 (by decide) dX12_isMarket_10 ?_
    cases h
    exact ya_zret .boolean rfl rfl rfl rfl (by decide) rfl (Nat.le_refl _) dX12_isMarket_14
set_option maxRecDepth 20000 in
theorem c_X12_isThing {X : ya_X} {G : ya_G} {v1 : Int64} {d : ya_D} {rr : Int32} (hG : ya_Bk ya_sh ya_ln G 0) (h : f_X12_isThing v1 d = some rr) : ya_Ct X yX12_isThing Y_X12_isThing [.ref (X.2.1 + 83), .long v1] G d (some (.int rr), G, d) := by
  refine ya_ct (by decide +kernel) rfl rfl (Nat.le_of_ble_eq_true rfl) ?_
  unfold f_X12_isThing at h
  show ya_E X Y_X12_isThing (ya_M X (some (.int rr), G, d) 0 0) 0 [(0, .ref (X.2.1 + 83)), (1, .long v1)] [] G d 0 0
  refine ya_lload_n 1 rfl dX12_isThing_0 ?_
  refine ya_lconst 0 rfl dX12_isThing_1 ?_
  refine ya_aload_n 0 rfl dX12_isThing_2 ?_
  refine ya_getR fo_X12_9 (hG.o0 83 rfl) (hG.lt0 83 (by decide)) (hG.l0 82 rfl) dX12_isThing_3 ?_
  refine ya_iconst 1 (by decide) dX12_isThing_6 ?_
  refine ya_iald (hG.s0 84 rfl) (hG.lt0 84 (by decide)) dX12_isThing_7 h (fun x7 h => ?_)
  refine ya_iconst 1 (by decide) dX12_isThing_8 ?_
  refine ya_isub dX12_isThing_9 ?_
  refine ya_i2l dX12_isThing_10 ?_
  obtain ⟨x11, e11, h⟩ := ya_ob h
  refine ya_callSi (S := []) (c_X12_in hG e11) m_X12_in ⟨rfl, rfl⟩ ml_X12_94 rfl ⟨Nat.le_of_ble_eq_true rfl, Nat.le_of_ble_eq_true rfl⟩ (Nat.le_of_ble_eq_true rfl) ⟨Nat.le_refl _, Nat.le_refl _⟩ dX12_isThing_11 rfl ?_
  refine ya_zretb dX12_isThing_14 h (fun hz h => ?_)
  cases h
  exact ya_zret .boolean rfl rfl rfl rfl hz rfl (Nat.le_refl _) dX12_isThing_14
set_option maxRecDepth 20000 in
theorem c_X12_isDay {X : ya_X} {G : ya_G} {v1 : Int64} {d : ya_D} {rr : Int32} (hG : ya_Bk ya_sh ya_ln G 0) (h : f_X12_isDay v1 d = some rr) : ya_Ct X yX12_isDay Y_X12_isDay [.ref (X.2.1 + 83), .long v1] G d (some (.int rr), G, d) := by
  refine ya_ct (by decide +kernel) rfl rfl (Nat.le_of_ble_eq_true rfl) ?_
  unfold f_X12_isDay at h
  show ya_E X Y_X12_isDay (ya_M X (some (.int rr), G, d) 0 0) 0 [(0, .ref (X.2.1 + 83)), (1, .long v1)] [] G d 0 0
  refine ya_lload_n 1 rfl dX12_isDay_0 ?_
  refine ya_lconst 0 rfl dX12_isDay_1 ?_
  refine ya_aload_n 0 rfl dX12_isDay_2 ?_
  refine ya_getR fo_X12_9 (hG.o0 83 rfl) (hG.lt0 83 (by decide)) (hG.l0 82 rfl) dX12_isDay_3 ?_
  refine ya_iconst 0 (by decide) dX12_isDay_6 ?_
  refine ya_iald (hG.s0 84 rfl) (hG.lt0 84 (by decide)) dX12_isDay_7 h (fun x7 h => ?_)
  refine ya_iconst 1 (by decide) dX12_isDay_8 ?_
  refine ya_isub dX12_isDay_9 ?_
  refine ya_i2l dX12_isDay_10 ?_
  obtain ⟨x11, e11, h⟩ := ya_ob h
  refine ya_callSi (S := []) (c_X12_in hG e11) m_X12_in ⟨rfl, rfl⟩ ml_X12_94 rfl ⟨Nat.le_of_ble_eq_true rfl, Nat.le_of_ble_eq_true rfl⟩ (Nat.le_of_ble_eq_true rfl) ⟨Nat.le_refl _, Nat.le_refl _⟩ dX12_isDay_11 rfl ?_
  refine ya_zretb dX12_isDay_14 h (fun hz h => ?_)
  cases h
  exact ya_zret .boolean rfl rfl rfl rfl hz rfl (Nat.le_refl _) dX12_isDay_14
set_option maxRecDepth 20000 in
theorem c_X12_isSeller {X : ya_X} {G : ya_G} {v1 : Int32} {d : ya_D} {rr : Int32} (hG : ya_Bk ya_sh ya_ln G 0) (h : f_X12_isSeller v1 d = some rr) : ya_Ct X yX12_isSeller Y_X12_isSeller [.ref (X.2.1 + 83), .int v1] G d (some (.int rr), G, d) := by
  refine ya_ct (by decide +kernel) rfl rfl (Nat.le_of_ble_eq_true rfl) ?_
  unfold f_X12_isSeller at h
  show ya_E X Y_X12_isSeller (ya_M X (some (.int rr), G, d) 0 0) 0 [(0, .ref (X.2.1 + 83)), (1, .int v1)] [] G d 0 0
  refine ya_iload_n 1 rfl dX12_isSeller_0 ?_
  refine ya_i2l dX12_isSeller_1 ?_
  refine ya_lconst 0 rfl dX12_isSeller_2 ?_
  refine ya_aload_n 0 rfl dX12_isSeller_3 ?_
  refine ya_getR fo_X12_9 (hG.o0 83 rfl) (hG.lt0 83 (by decide)) (hG.l0 82 rfl) dX12_isSeller_4 ?_
  refine ya_iconst 2 (by decide) dX12_isSeller_7 ?_
  refine ya_iald (hG.s0 84 rfl) (hG.lt0 84 (by decide)) dX12_isSeller_8 h (fun x8 h => ?_)
  refine ya_iconst 1 (by decide) dX12_isSeller_9 ?_
  refine ya_isub dX12_isSeller_10 ?_
  refine ya_i2l dX12_isSeller_11 ?_
  obtain ⟨x12, e12, h⟩ := ya_ob h
  refine ya_callSi (S := []) (c_X12_in hG e12) m_X12_in ⟨rfl, rfl⟩ ml_X12_94 rfl ⟨Nat.le_of_ble_eq_true rfl, Nat.le_of_ble_eq_true rfl⟩ (Nat.le_of_ble_eq_true rfl) ⟨Nat.le_refl _, Nat.le_refl _⟩ dX12_isSeller_12 rfl ?_
  refine ya_zretb dX12_isSeller_15 h (fun hz h => ?_)
  cases h
  exact ya_zret .boolean rfl rfl rfl rfl hz rfl (Nat.le_refl _) dX12_isSeller_15
set_option maxRecDepth 20000 in
theorem c_X12_isBuyer {X : ya_X} {G : ya_G} {v1 : Int32} {d : ya_D} {rr : Int32} (hG : ya_Bk ya_sh ya_ln G 0) (h : f_X12_isBuyer v1 d = some rr) : ya_Ct X yX12_isBuyer Y_X12_isBuyer [.ref (X.2.1 + 83), .int v1] G d (some (.int rr), G, d) := by
  refine ya_ct (by decide +kernel) rfl rfl (Nat.le_of_ble_eq_true rfl) ?_
  unfold f_X12_isBuyer at h
  show ya_E X Y_X12_isBuyer (ya_M X (some (.int rr), G, d) 0 0) 0 [(0, .ref (X.2.1 + 83)), (1, .int v1)] [] G d 0 0
  refine ya_iload_n 1 rfl dX12_isBuyer_0 ?_
  refine ya_i2l dX12_isBuyer_1 ?_
  refine ya_lconst 0 rfl dX12_isBuyer_2 ?_
  refine ya_aload_n 0 rfl dX12_isBuyer_3 ?_
  refine ya_getR fo_X12_9 (hG.o0 83 rfl) (hG.lt0 83 (by decide)) (hG.l0 82 rfl) dX12_isBuyer_4 ?_
  refine ya_iconst 3 (by decide) dX12_isBuyer_7 ?_
  refine ya_iald (hG.s0 84 rfl) (hG.lt0 84 (by decide)) dX12_isBuyer_8 h (fun x8 h => ?_)
  refine ya_iconst 1 (by decide) dX12_isBuyer_9 ?_
  refine ya_isub dX12_isBuyer_10 ?_
  refine ya_i2l dX12_isBuyer_11 ?_
  obtain ⟨x12, e12, h⟩ := ya_ob h
  refine ya_callSi (S := []) (c_X12_in hG e12) m_X12_in ⟨rfl, rfl⟩ ml_X12_94 rfl ⟨Nat.le_of_ble_eq_true rfl, Nat.le_of_ble_eq_true rfl⟩ (Nat.le_of_ble_eq_true rfl) ⟨Nat.le_refl _, Nat.le_refl _⟩ dX12_isBuyer_12 rfl ?_
  refine ya_zretb dX12_isBuyer_15 h (fun hz h => ?_)
  cases h
  exact ya_zret .boolean rfl rfl rfl rfl hz rfl (Nat.le_refl _) dX12_isBuyer_15
set_option maxRecDepth 20000 in
theorem c_X12_areSo {X : ya_X} {G : ya_G} {v1 : Int32} {v2 : Int32} {d : ya_D} {rr : Int32} (hG : ya_Bk ya_sh ya_ln G 0) (h : f_X12_areSo v1 v2 d = some rr) : ya_Ct X yX12_areSo Y_X12_areSo [.ref (X.2.1 + 83), .int v1, .int v2] G d (some (.int rr), G, d) := by
  refine ya_ct (by decide +kernel) rfl rfl (Nat.le_of_ble_eq_true rfl) ?_
  unfold f_X12_areSo at h
  show ya_E X Y_X12_areSo (ya_M X (some (.int rr), G, d) 0 0) 0 [(0, .ref (X.2.1 + 83)), (1, .int v1), (2, .int v2)] [] G d 0 0
  refine ya_aload_n 0 rfl dX12_areSo_0 ?_
  refine ya_iload_n 1 rfl dX12_areSo_1 ?_
  refine ya_i2l dX12_areSo_2 ?_
  obtain ⟨x3, e3, h⟩ := ya_ob h
  refine ya_callVi (S := []) (c_X12_isThing hG e3) m_X12_isThing ⟨rfl, rfl⟩ ml_X12_98 rfl ⟨Nat.le_of_ble_eq_true rfl, Nat.le_of_ble_eq_true rfl⟩ (Nat.le_of_ble_eq_true rfl) (hG.lt0 83 (by decide)) (hG.o0 83 rfl) (by decide) rfl rfl ⟨Nat.le_refl _, Nat.le_refl _⟩ dX12_areSo_3 rfl ?_
  refine ya_j0_s h (ya_E X Y_X12_areSo (ya_M X (some (.int rr), G, d) 0 0) 22 [] [] G d 0 0) (fun h => ?_) (fun k22 hk22 h => ?_)
  · refine ya_iconst 0 (by decide) dX12_areSo_22 ?_
    cases h
    exact ya_zret .boolean rfl rfl rfl rfl (by decide) rfl (Nat.le_refl _) dX12_areSo_23
  · refine ya_ifeq 22 (by decide) dX12_areSo_6 (fun c => ?_) (fun c => ?_)
    · replace h := ya_itet h c
      refine ya_sub [] [] rfl ?_
      exact hk22  h
    · replace h := ya_itef h c
      refine ya_aload_n 0 rfl dX12_areSo_9 ?_
      refine ya_iload_n 2 rfl dX12_areSo_10 ?_
      refine ya_i2l dX12_areSo_11 ?_
      obtain ⟨x12, e12, h⟩ := ya_ob h
      refine ya_callVi (S := []) (c_X12_isDay hG e12) m_X12_isDay ⟨rfl, rfl⟩ ml_X12_102 rfl ⟨Nat.le_of_ble_eq_true rfl, Nat.le_of_ble_eq_true rfl⟩ (Nat.le_of_ble_eq_true rfl) (hG.lt0 83 (by decide)) (hG.o0 83 rfl) (by decide) rfl rfl ⟨Nat.le_refl _, Nat.le_refl _⟩ dX12_areSo_12 rfl ?_
      refine ya_ifeq 22 (by decide) dX12_areSo_15 (fun c => ?_) (fun c => ?_)
      · replace h := ya_itet h c
        refine ya_sub [] [] rfl ?_
        exact hk22  h
      · replace h := ya_itef h c
        refine ya_iconst 1 (by decide) dX12_areSo_18 ?_
        refine ya_goto 23 (by decide) dX12_areSo_19 ?_
        cases h
        exact ya_zret .boolean rfl rfl rfl rfl (by decide) rfl (Nat.le_refl _) dX12_areSo_23
set_option maxRecDepth 20000 in
theorem c_X12_at {X : ya_X} {G : ya_G} {v0 : Int32} {v1 : Int32} {d : ya_D} {rr : Int32} (hG : ya_Bk ya_sh ya_ln G 0) (h : f_X12_at v0 v1 = some rr) : ya_Ct X yX12_at Y_X12_at [.int v0, .int v1] G d (some (.int rr), G, d) := by
  refine ya_ct (by decide +kernel) rfl rfl (Nat.le_of_ble_eq_true rfl) ?_
  unfold f_X12_at at h
  show ya_E X Y_X12_at (ya_M X (some (.int rr), G, d) 0 0) 0 [(0, .int v0), (1, .int v1)] [] G d 0 0
  refine ya_bipush 20 (by decide) dX12_at_0 ?_
  refine ya_iload_n 0 rfl dX12_at_2 ?_
  refine ya_imul dX12_at_3 ?_
  refine ya_iload_n 1 rfl dX12_at_4 ?_
  refine ya_iadd dX12_at_5 ?_
  cases h
  exact ya_iret rfl rfl rfl rfl rfl (Nat.le_refl _) dX12_at_6
set_option maxRecDepth 20000 in
theorem c_X12_priceOf {X : ya_X} {G : ya_G} {v1 : Int32} {v2 : Int32} {d : ya_D} {rr : Int32} (hG : ya_Bk ya_sh ya_ln G 0) (h : f_X12_priceOf v1 v2 d = some rr) : ya_Ct X yX12_priceOf Y_X12_priceOf [.ref (X.2.1 + 83), .int v1, .int v2] G d (some (.int rr), G, d) := by
  refine ya_ct (by decide +kernel) rfl rfl (Nat.le_of_ble_eq_true rfl) ?_
  unfold f_X12_priceOf at h
  show ya_E X Y_X12_priceOf (ya_M X (some (.int rr), G, d) 0 0) 0 [(0, .ref (X.2.1 + 83)), (1, .int v1), (2, .int v2)] [] G d 0 0
  refine ya_aload_n 0 rfl dX12_priceOf_0 ?_
  refine ya_getR fo_X12_9 (hG.o0 83 rfl) (hG.lt0 83 (by decide)) (hG.l0 82 rfl) dX12_priceOf_1 ?_
  refine ya_bipush 11 (by decide) dX12_priceOf_4 ?_
  refine ya_iload_n 1 rfl dX12_priceOf_6 ?_
  refine ya_iload_n 2 rfl dX12_priceOf_7 ?_
  obtain ⟨x8, e8, h⟩ := ya_ob h
  refine ya_callSi (S := [.int 11, .ref (X.2.1 + 84)]) (c_X12_at hG e8) m_X12_at ⟨rfl, rfl⟩ ml_X12_105 rfl ⟨Nat.le_of_ble_eq_true rfl, Nat.le_of_ble_eq_true rfl⟩ (Nat.le_of_ble_eq_true rfl) ⟨Nat.le_refl _, Nat.le_refl _⟩ dX12_priceOf_8 rfl ?_
  refine ya_iadd dX12_priceOf_11 ?_
  refine ya_iald (hG.s0 84 rfl) (hG.lt0 84 (by decide)) dX12_priceOf_12 h (fun x12 h => ?_)
  cases h
  exact ya_iret rfl rfl rfl rfl rfl (Nat.le_refl _) dX12_priceOf_13
set_option maxRecDepth 20000 in
theorem c_X12_keepsOf {X : ya_X} {G : ya_G} {v1 : Int32} {d : ya_D} {rr : Int32} (hG : ya_Bk ya_sh ya_ln G 0) (h : f_X12_keepsOf v1 d = some rr) : ya_Ct X yX12_keepsOf Y_X12_keepsOf [.ref (X.2.1 + 83), .int v1] G d (some (.int rr), G, d) := by
  refine ya_ct (by decide +kernel) rfl rfl (Nat.le_of_ble_eq_true rfl) ?_
  unfold f_X12_keepsOf at h
  show ya_E X Y_X12_keepsOf (ya_M X (some (.int rr), G, d) 0 0) 0 [(0, .ref (X.2.1 + 83)), (1, .int v1)] [] G d 0 0
  refine ya_aload_n 0 rfl dX12_keepsOf_0 ?_
  refine ya_getR fo_X12_9 (hG.o0 83 rfl) (hG.lt0 83 (by decide)) (hG.l0 82 rfl) dX12_keepsOf_1 ?_
  refine ya_bipush 6 (by decide) dX12_keepsOf_4 ?_
  refine ya_iload_n 1 rfl dX12_keepsOf_6 ?_
  refine ya_iadd dX12_keepsOf_7 ?_
  refine ya_iald (hG.s0 84 rfl) (hG.lt0 84 (by decide)) dX12_keepsOf_8 h (fun x8 h => ?_)
  cases h
  exact ya_iret rfl rfl rfl rfl rfl (Nat.le_refl _) dX12_keepsOf_9
set_option maxRecDepth 20000 in
theorem c_X12_seller3 {X : ya_X} {G : ya_G} {v1 : Int32} {v2 : Int32} {d : ya_D} {rr : Int32} (hG : ya_Bk ya_sh ya_ln G 0) (h : f_X12_seller3 v1 v2 d = some rr) : ya_Ct X yX12_seller3 Y_X12_seller3 [.ref (X.2.1 + 83), .int v1, .int v2] G d (some (.int rr), G, d) := by
  refine ya_ct (by decide +kernel) rfl rfl (Nat.le_of_ble_eq_true rfl) ?_
  unfold f_X12_seller3 at h
  show ya_E X Y_X12_seller3 (ya_M X (some (.int rr), G, d) 0 0) 0 [(0, .ref (X.2.1 + 83)), (1, .int v1), (2, .int v2)] [] G d 0 0
  refine ya_aload_n 0 rfl dX12_seller3_0 ?_
  refine ya_getR fo_X12_9 (hG.o0 83 rfl) (hG.lt0 83 (by decide)) (hG.l0 82 rfl) dX12_seller3_1 ?_
  refine ya_sipush 311 (by decide) dX12_seller3_4 ?_
  refine ya_iconst 3 (by decide) dX12_seller3_7 ?_
  refine ya_iload_n 1 rfl dX12_seller3_8 ?_
  refine ya_imul dX12_seller3_9 ?_
  refine ya_iadd dX12_seller3_10 ?_
  refine ya_iload_n 2 rfl dX12_seller3_11 ?_
  refine ya_iadd dX12_seller3_12 ?_
  refine ya_iald (hG.s0 84 rfl) (hG.lt0 84 (by decide)) dX12_seller3_13 h (fun x13 h => ?_)
  cases h
  exact ya_iret rfl rfl rfl rfl rfl (Nat.le_refl _) dX12_seller3_14
set_option maxRecDepth 20000 in
theorem c_X12_thingOf {X : ya_X} {G : ya_G} {v1 : Int32} {d : ya_D} {rr : Int32} (hG : ya_Bk ya_sh ya_ln G 0) (h : f_X12_thingOf v1 d = some rr) : ya_Ct X yX12_thingOf Y_X12_thingOf [.ref (X.2.1 + 83), .int v1] G d (some (.int rr), G, d) := by
  refine ya_ct (by decide +kernel) rfl rfl (Nat.le_of_ble_eq_true rfl) ?_
  unfold f_X12_thingOf at h
  show ya_E X Y_X12_thingOf (ya_M X (some (.int rr), G, d) 0 0) 0 [(0, .ref (X.2.1 + 83)), (1, .int v1)] [] G d 0 0
  refine ya_aload_n 0 rfl dX12_thingOf_0 ?_
  refine ya_iload_n 1 rfl dX12_thingOf_1 ?_
  refine ya_iconst 0 (by decide) dX12_thingOf_2 ?_
  obtain ⟨x3, e3, h⟩ := ya_ob h
  refine ya_callVi (S := []) (c_X12_seller3 hG e3) m_X12_seller3 ⟨rfl, rfl⟩ ml_X12_109 rfl ⟨Nat.le_of_ble_eq_true rfl, Nat.le_of_ble_eq_true rfl⟩ (Nat.le_of_ble_eq_true rfl) (hG.lt0 83 (by decide)) (hG.o0 83 rfl) (by decide) rfl rfl ⟨Nat.le_refl _, Nat.le_refl _⟩ dX12_thingOf_3 rfl ?_
  cases h
  exact ya_iret rfl rfl rfl rfl rfl (Nat.le_refl _) dX12_thingOf_6
set_option maxRecDepth 20000 in
theorem c_X12_of {X : ya_X} {G : ya_G} {v1 : Int32} {v2 : Int32} {d : ya_D} {rr : Int32} (hG : ya_Bk ya_sh ya_ln G 0) (h : f_X12_of v1 v2 d = some rr) : ya_Ct X yX12_of Y_X12_of [.ref (X.2.1 + 83), .int v1, .int v2] G d (some (.int rr), G, d) := by
  refine ya_ct (by decide +kernel) rfl rfl (Nat.le_of_ble_eq_true rfl) ?_
  unfold f_X12_of at h
  show ya_E X Y_X12_of (ya_M X (some (.int rr), G, d) 0 0) 0 [(0, .ref (X.2.1 + 83)), (1, .int v1), (2, .int v2)] [] G d 0 0
  refine ya_aload_n 0 rfl dX12_of_0 ?_
  refine ya_getR fo_X12_9 (hG.o0 83 rfl) (hG.lt0 83 (by decide)) (hG.l0 82 rfl) dX12_of_1 ?_
  refine ya_sipush 426 (by decide) dX12_of_4 ?_
  refine ya_bipush 6 (by decide) dX12_of_7 ?_
  refine ya_iload_n 1 rfl dX12_of_9 ?_
  refine ya_imul dX12_of_10 ?_
  refine ya_iadd dX12_of_11 ?_
  refine ya_iload_n 2 rfl dX12_of_12 ?_
  refine ya_iadd dX12_of_13 ?_
  refine ya_iald (hG.s0 84 rfl) (hG.lt0 84 (by decide)) dX12_of_14 h (fun x14 h => ?_)
  cases h
  exact ya_iret rfl rfl rfl rfl rfl (Nat.le_refl _) dX12_of_15
set_option maxRecDepth 20000 in
theorem w_X12_feed_L55 {X : ya_X} {G : ya_G} {rr : (Int32 × ya_D)} {e101 : ya_D → Option (Int32 × ya_D)} (hG : ya_Bk ya_sh ya_ln G 0) (he101 : ∀ (d : ya_D), e101 d = some rr → ya_E X Y_X12_feed (ya_M X (some (.int rr.1), G, rr.2) 0 0) 101 [(0, .ref (X.2.1 + 83))] [] G d 0 0) : ∀ (n : Nat) (v6 : Int32) (d : ya_D), f_X12_feed_L55 e101 n v6 d = some rr → ya_E X Y_X12_feed (ya_M X (some (.int rr.1), G, rr.2) 0 0) 55 [(0, .ref (X.2.1 + 83)), (6, .int v6)] [] G d 0 0 := by
  intro n
  induction n with
  | zero => intro v6 d h; cases h
  | succ n ih =>
    intro v6 d h
    rw [f_X12_feed_L55] at h
    refine ya_iload 1 rfl dX12_feed_55 ?_
    refine ya_bipush 20 (by decide) dX12_feed_57 ?_
    refine ya_icmp_ge 101 (by decide) dX12_feed_59 (fun c => ?_) (fun c => ?_)
    · replace h := ya_itet h c
      refine ya_sub [(0, .ref (X.2.1 + 83))] [0] rfl ?_
      exact he101 _ h
    · replace h := ya_itef h c
      refine ya_aload_n 0 rfl dX12_feed_62 ?_
      refine ya_getR fo_X12_20 (hG.o0 83 rfl) (hG.lt0 83 (by decide)) (hG.l0 85 rfl) dX12_feed_63 ?_
      refine ya_aload_n 0 rfl dX12_feed_66 ?_
      refine ya_getI fo_X12_112 (hG.o0 83 rfl) (hG.lt0 83 (by decide)) dX12_feed_67 ?_
      refine ya_iload 1 rfl dX12_feed_70 ?_
      refine ya_iadd dX12_feed_72 ?_
      refine ya_aload_n 0 rfl dX12_feed_73 ?_
      refine ya_getR fo_X12_24 (hG.o0 83 rfl) (hG.lt0 83 (by decide)) (hG.l0 86 rfl) dX12_feed_74 ?_
      refine ya_iload 1 rfl dX12_feed_77 ?_
      refine ya_iconst 4 (by decide) dX12_feed_79 ?_
      refine ya_idiv (by decide) dX12_feed_80 ?_
      refine ya_iald (hG.s0 88 rfl) (hG.lt0 88 (by decide)) dX12_feed_81 h (fun x81 h => ?_)
      refine ya_bipush 24 (by decide) dX12_feed_82 ?_
      refine ya_bipush 8 (by decide) dX12_feed_84 ?_
      refine ya_iload 1 rfl dX12_feed_86 ?_
      refine ya_iconst 4 (by decide) dX12_feed_88 ?_
      refine ya_irem (by decide) dX12_feed_89 ?_
      refine ya_imul dX12_feed_90 ?_
      refine ya_isub dX12_feed_91 ?_
      refine ya_ishr dX12_feed_92 ?_
      refine ya_i2b dX12_feed_93 ?_
      refine ya_bast (hG.s0 87 rfl) (hG.lt0 87 (by decide)) dX12_feed_94 h (fun d94 h => ?_)
      refine ya_iinc (v6 + 1) rfl 1 rfl [(6, .int (v6 + 1)), (0, .ref (X.2.1 + 83))] (by decide) rfl dX12_feed_95 ?_
      refine ya_goto 55 (by decide) dX12_feed_98 ?_
      refine ya_sub [(0, .ref (X.2.1 + 83)), (6, .int (v6 + 1))] [1, 0] rfl ?_
      exact ih _ _ h
set_option maxRecDepth 20000 in
theorem c_X12_feed {X : ya_X} {G : ya_G} {v1 : Int32} {v2 : Int32} {v3 : Int32} {v4 : Int32} {v5 : Int32} {d : ya_D} {rr : (Int32 × ya_D)} (hG : ya_Bk ya_sh ya_ln G 0) (h : f_X12_feed v1 v2 v3 v4 v5 d = some rr) : ya_Ct X yX12_feed Y_X12_feed [.ref (X.2.1 + 83), .int v1, .int v2, .int v3, .int v4, .int v5] G d (some (.int rr.1), G, rr.2) := by
  refine ya_ct (by decide +kernel) rfl rfl (Nat.le_of_ble_eq_true rfl) ?_
  unfold f_X12_feed at h
  show ya_E X Y_X12_feed (ya_M X (some (.int rr.1), G, rr.2) 0 0) 0 [(0, .ref (X.2.1 + 83)), (1, .int v1), (2, .int v2), (3, .int v3), (4, .int v4), (5, .int v5)] [] G d 0 0
  refine ya_aload_n 0 rfl dX12_feed_0 ?_
  refine ya_getI fo_X12_112 (hG.o0 83 rfl) (hG.lt0 83 (by decide)) dX12_feed_1 ?_
  refine ya_bipush 20 (by decide) dX12_feed_4 ?_
  refine ya_iadd dX12_feed_6 ?_
  refine ya_sipush 2000 (by decide) dX12_feed_7 ?_
  refine ya_icmp_le 15 (by decide) dX12_feed_10 (fun c => ?_) (fun c => ?_)
  · replace h := ya_itet h c
    refine ya_aload_n 0 rfl dX12_feed_15 ?_
    refine ya_getR fo_X12_24 (hG.o0 83 rfl) (hG.lt0 83 (by decide)) (hG.l0 86 rfl) dX12_feed_16 ?_
    refine ya_iconst 0 (by decide) dX12_feed_19 ?_
    refine ya_iload_n 1 rfl dX12_feed_20 ?_
    refine ya_iast (hG.s0 88 rfl) (hG.lt0 88 (by decide)) dX12_feed_21 h (fun d21 h => ?_)
    refine ya_aload_n 0 rfl dX12_feed_22 ?_
    refine ya_getR fo_X12_24 (hG.o0 83 rfl) (hG.lt0 83 (by decide)) (hG.l0 86 rfl) dX12_feed_23 ?_
    refine ya_iconst 1 (by decide) dX12_feed_26 ?_
    refine ya_iload_n 2 rfl dX12_feed_27 ?_
    refine ya_iast (hG.s0 88 rfl) (hG.lt0 88 (by decide)) dX12_feed_28 h (fun d28 h => ?_)
    refine ya_aload_n 0 rfl dX12_feed_29 ?_
    refine ya_getR fo_X12_24 (hG.o0 83 rfl) (hG.lt0 83 (by decide)) (hG.l0 86 rfl) dX12_feed_30 ?_
    refine ya_iconst 2 (by decide) dX12_feed_33 ?_
    refine ya_iload_n 3 rfl dX12_feed_34 ?_
    refine ya_iast (hG.s0 88 rfl) (hG.lt0 88 (by decide)) dX12_feed_35 h (fun d35 h => ?_)
    refine ya_aload_n 0 rfl dX12_feed_36 ?_
    refine ya_getR fo_X12_24 (hG.o0 83 rfl) (hG.lt0 83 (by decide)) (hG.l0 86 rfl) dX12_feed_37 ?_
    refine ya_iconst 3 (by decide) dX12_feed_40 ?_
    refine ya_iload 4 rfl dX12_feed_41 ?_
    refine ya_iast (hG.s0 88 rfl) (hG.lt0 88 (by decide)) dX12_feed_43 h (fun d43 h => ?_)
    refine ya_aload_n 0 rfl dX12_feed_44 ?_
    refine ya_getR fo_X12_24 (hG.o0 83 rfl) (hG.lt0 83 (by decide)) (hG.l0 86 rfl) dX12_feed_45 ?_
    refine ya_iconst 4 (by decide) dX12_feed_48 ?_
    refine ya_iload 5 rfl dX12_feed_49 ?_
    refine ya_iast (hG.s0 88 rfl) (hG.lt0 88 (by decide)) dX12_feed_51 h (fun d51 h => ?_)
    refine ya_iconst 0 (by decide) dX12_feed_52 ?_
    refine ya_istore [(6, .int 0), (0, .ref (X.2.1 + 83)), (1, .int v1), (2, .int v2), (3, .int v3), (4, .int v4), (5, .int v5)] (by decide) rfl dX12_feed_53 ?_
    refine ya_sub [(0, .ref (X.2.1 + 83)), (6, .int 0)] [1, 0] rfl ?_
    refine w_X12_feed_L55 hG (fun d_101 h => ?_) ya_F _ _ h
    refine ya_aload_n 0 rfl dX12_feed_101 ?_
    refine ya_dup rfl dX12_feed_102 ?_
    refine ya_getI fo_X12_112 (hG.o0 83 rfl) (hG.lt0 83 (by decide)) dX12_feed_103 ?_
    refine ya_bipush 20 (by decide) dX12_feed_106 ?_
    refine ya_iadd dX12_feed_108 ?_
    refine ya_putIb fo_X12_112 (hG.o0 83 rfl) (hG.lt0 83 (by decide)) .int pf_X12_5 rfl rfl dX12_feed_109 h (fun d109 h => ?_)
    refine ya_aload_n 0 rfl dX12_feed_112 ?_
    refine ya_getI fo_X12_112 (hG.o0 83 rfl) (hG.lt0 83 (by decide)) dX12_feed_113 ?_
    cases h
    exact ya_iret rfl rfl rfl rfl rfl (Nat.le_refl _) dX12_feed_116
  · replace h := ya_itef h c
    refine ya_iconst (-1) (by decide) dX12_feed_13 ?_
    cases h
    exact ya_iret rfl rfl rfl rfl rfl (Nat.le_refl _) dX12_feed_14
set_option maxRecDepth 20000 in
theorem c_X12_end {X : ya_X} {G : ya_G} {v1 : Int32} {d : ya_D} {rr : (Int32 × ya_D)} (hG : ya_Bk ya_sh ya_ln G 0) (h : f_X12_end v1 d = some rr) : ya_Ct X yX12_end Y_X12_end [.ref (X.2.1 + 83), .int v1] G d (some (.int rr.1), G, rr.2) := by
  refine ya_ct (by decide +kernel) rfl rfl (Nat.le_of_ble_eq_true rfl) ?_
  unfold f_X12_end at h
  show ya_E X Y_X12_end (ya_M X (some (.int rr.1), G, rr.2) 0 0) 0 [(0, .ref (X.2.1 + 83)), (1, .int v1)] [] G d 0 0
  refine ya_iload_n 1 rfl dX12_end_0 ?_
  refine ya_i2l dX12_end_1 ?_
  refine ya_lconst 0 rfl dX12_end_2 ?_
  refine ya_aload_n 0 rfl dX12_end_3 ?_
  refine ya_getI fo_X12_112 (hG.o0 83 rfl) (hG.lt0 83 (by decide)) dX12_end_4 ?_
  refine ya_i2l dX12_end_7 ?_
  obtain ⟨x8, e8, h⟩ := ya_ob h
  refine ya_callSi (S := []) (c_X12_in hG e8) m_X12_in ⟨rfl, rfl⟩ ml_X12_94 rfl ⟨Nat.le_of_ble_eq_true rfl, Nat.le_of_ble_eq_true rfl⟩ (Nat.le_of_ble_eq_true rfl) ⟨Nat.le_refl _, Nat.le_refl _⟩ dX12_end_8 rfl ?_
  refine ya_ifne 16 (by decide) dX12_end_11 (fun c => ?_) (fun c => ?_)
  · replace h := ya_itef h c
    refine ya_aload_n 0 rfl dX12_end_16 ?_
    refine ya_iload_n 1 rfl dX12_end_17 ?_
    refine ya_putIb fo_X12_112 (hG.o0 83 rfl) (hG.lt0 83 (by decide)) .int pf_X12_5 rfl rfl dX12_end_18 h (fun d18 h => ?_)
    refine ya_iload_n 1 rfl dX12_end_21 ?_
    cases h
    exact ya_iret rfl rfl rfl rfl rfl (Nat.le_refl _) dX12_end_22
  · replace h := ya_itet h c
    refine ya_iconst (-1) (by decide) dX12_end_14 ?_
    cases h
    exact ya_iret rfl rfl rfl rfl rfl (Nat.le_refl _) dX12_end_15
set_option maxRecDepth 20000 in
theorem c_X12_see {X : ya_X} {G : ya_G} {v1 : Int32} {d : ya_D} {rr : Int32} (hG : ya_Bk ya_sh ya_ln G 0) (h : f_X12_see v1 d = some rr) : ya_Ct X yX12_see Y_X12_see [.ref (X.2.1 + 83), .int v1] G d (some (.int rr), G, d) := by
  refine ya_ct (by decide +kernel) rfl rfl (Nat.le_of_ble_eq_true rfl) ?_
  unfold f_X12_see at h
  show ya_E X Y_X12_see (ya_M X (some (.int rr), G, d) 0 0) 0 [(0, .ref (X.2.1 + 83)), (1, .int v1)] [] G d 0 0
  refine ya_iload_n 1 rfl dX12_see_0 ?_
  refine ya_aload_n 0 rfl dX12_see_1 ?_
  refine ya_getI fo_X12_115 (hG.o0 83 rfl) (hG.lt0 83 (by decide)) dX12_see_2 ?_
  refine ya_icmp_ge 21 (by decide) dX12_see_5 (fun c => ?_) (fun c => ?_)
  · replace h := ya_itet h c
    refine ya_iconst (-1) (by decide) dX12_see_21 ?_
    cases h
    exact ya_iret rfl rfl rfl rfl rfl (Nat.le_refl _) dX12_see_22
  · replace h := ya_itef h c
    refine ya_aload_n 0 rfl dX12_see_8 ?_
    refine ya_getR fo_X12_20 (hG.o0 83 rfl) (hG.lt0 83 (by decide)) (hG.l0 85 rfl) dX12_see_9 ?_
    refine ya_iload_n 1 rfl dX12_see_12 ?_
    refine ya_bald (hG.s0 87 rfl) (hG.lt0 87 (by decide)) dX12_see_13 h (fun x13 h => ?_)
    refine ya_sipush 255 (by decide) dX12_see_14 ?_
    refine ya_iand dX12_see_17 ?_
    refine ya_goto 22 (by decide) dX12_see_18 ?_
    cases h
    exact ya_iret rfl rfl rfl rfl rfl (Nat.le_refl _) dX12_see_22
set_option maxRecDepth 20000 in
theorem w_X12_advance_L0 {X : ya_X} {G : ya_G} {rr : ya_D} {e39 : ya_D → Option ya_D} (hG : ya_Bk ya_sh ya_ln G 0) (he39 : ∀ (d : ya_D), e39 d = some rr → ya_E X Y_X12_advance (ya_M X (none, G, rr) 0 0) 39 [(0, .ref (X.2.1 + 83))] [] G d 0 0) : ∀ (n : Nat) (d : ya_D), f_X12_advance_L0 e39 n d = some rr → ya_E X Y_X12_advance (ya_M X (none, G, rr) 0 0) 0 [(0, .ref (X.2.1 + 83))] [] G d 0 0 := by
  intro n
  induction n with
  | zero => intro d h; cases h
  | succ n ih =>
    intro d h
    rw [f_X12_advance_L0] at h
    refine ya_aload_n 0 rfl dX12_advance_0 ?_
    refine ya_aload_n 0 rfl dX12_advance_1 ?_
    refine ya_getI fo_X12_118 (hG.o0 83 rfl) (hG.lt0 83 (by decide)) dX12_advance_2 ?_
    obtain ⟨x5, e5, h⟩ := ya_ob h
    refine ya_callVi (S := []) (c_X12_see hG e5) m_X12_see ⟨rfl, rfl⟩ ml_X12_120 rfl ⟨Nat.le_of_ble_eq_true rfl, Nat.le_of_ble_eq_true rfl⟩ (Nat.le_of_ble_eq_true rfl) (hG.lt0 83 (by decide)) (hG.o0 83 rfl) (by decide) rfl rfl ⟨Nat.le_refl _, Nat.le_refl _⟩ dX12_advance_5 rfl ?_
    refine ya_bipush 32 (by decide) dX12_advance_8 ?_
    refine ya_j0_s h (ya_E X Y_X12_advance (ya_M X (none, G, rr) 0 0) 26 [(0, .ref (X.2.1 + 83))] [] G d 0 0) (fun h => ?_) (fun k26 hk26 h => ?_)
    · refine ya_aload_n 0 rfl dX12_advance_26 ?_
      refine ya_dup rfl dX12_advance_27 ?_
      refine ya_getI fo_X12_118 (hG.o0 83 rfl) (hG.lt0 83 (by decide)) dX12_advance_28 ?_
      refine ya_iconst 1 (by decide) dX12_advance_31 ?_
      refine ya_iadd dX12_advance_32 ?_
      refine ya_putIb fo_X12_118 (hG.o0 83 rfl) (hG.lt0 83 (by decide)) .int pf_X12_8 rfl rfl dX12_advance_33 h (fun d33 h => ?_)
      refine ya_goto 0 (by decide) dX12_advance_36 ?_
      exact ih _ h
    · refine ya_icmp_eq 26 (by decide) dX12_advance_10 (fun c => ?_) (fun c => ?_)
      · replace h := ya_itet h c
        exact hk26  h
      · replace h := ya_itef h c
        refine ya_aload_n 0 rfl dX12_advance_13 ?_
        refine ya_aload_n 0 rfl dX12_advance_14 ?_
        refine ya_getI fo_X12_118 (hG.o0 83 rfl) (hG.lt0 83 (by decide)) dX12_advance_15 ?_
        obtain ⟨x18, e18, h⟩ := ya_ob h
        refine ya_callVi (S := []) (c_X12_see hG e18) m_X12_see ⟨rfl, rfl⟩ ml_X12_120 rfl ⟨Nat.le_of_ble_eq_true rfl, Nat.le_of_ble_eq_true rfl⟩ (Nat.le_of_ble_eq_true rfl) (hG.lt0 83 (by decide)) (hG.o0 83 rfl) (by decide) rfl rfl ⟨Nat.le_refl _, Nat.le_refl _⟩ dX12_advance_18 rfl ?_
        refine ya_bipush 10 (by decide) dX12_advance_21 ?_
        refine ya_icmp_ne 39 (by decide) dX12_advance_23 (fun c => ?_) (fun c => ?_)
        · replace h := ya_itef h c
          exact he39 _ h
        · replace h := ya_itet h c
          exact hk26  h
set_option maxRecDepth 20000 in
theorem w_X12_advance_L144 {X : ya_X} {G : ya_G} {rr : ya_D} {e206 : ya_D → Option ya_D} (hG : ya_Bk ya_sh ya_ln G 0) (he206 : ∀ (d : ya_D), e206 d = some rr → ya_E X Y_X12_advance (ya_M X (none, G, rr) 0 0) 206 [(0, .ref (X.2.1 + 83))] [] G d 0 0) : ∀ (n : Nat) (d : ya_D), f_X12_advance_L144 e206 n d = some rr → ya_E X Y_X12_advance (ya_M X (none, G, rr) 0 0) 144 [(0, .ref (X.2.1 + 83))] [] G d 0 0 := by
  intro n
  induction n with
  | zero => intro d h; cases h
  | succ n ih =>
    intro d h
    rw [f_X12_advance_L144] at h
    refine ya_aload_n 0 rfl dX12_advance_144 ?_
    refine ya_aload_n 0 rfl dX12_advance_145 ?_
    refine ya_getI fo_X12_118 (hG.o0 83 rfl) (hG.lt0 83 (by decide)) dX12_advance_146 ?_
    obtain ⟨x149, e149, h⟩ := ya_ob h
    refine ya_callVi (S := []) (c_X12_see hG e149) m_X12_see ⟨rfl, rfl⟩ ml_X12_120 rfl ⟨Nat.le_of_ble_eq_true rfl, Nat.le_of_ble_eq_true rfl⟩ (Nat.le_of_ble_eq_true rfl) (hG.lt0 83 (by decide)) (hG.o0 83 rfl) (by decide) rfl rfl ⟨Nat.le_refl _, Nat.le_refl _⟩ dX12_advance_149 rfl ?_
    refine ya_i2l dX12_advance_152 ?_
    refine ya_ldc2 48 kc_X12_134 dX12_advance_153 ?_
    refine ya_ldc2 57 kc_X12_136 dX12_advance_156 ?_
    obtain ⟨x159, e159, h⟩ := ya_ob h
    refine ya_callSi (S := []) (c_X12_in hG e159) m_X12_in ⟨rfl, rfl⟩ ml_X12_94 rfl ⟨Nat.le_of_ble_eq_true rfl, Nat.le_of_ble_eq_true rfl⟩ (Nat.le_of_ble_eq_true rfl) ⟨Nat.le_refl _, Nat.le_refl _⟩ dX12_advance_159 rfl ?_
    refine ya_ifeq 206 (by decide) dX12_advance_162 (fun c => ?_) (fun c => ?_)
    · replace h := ya_itet h c
      exact he206 _ h
    · replace h := ya_itef h c
      refine ya_aload_n 0 rfl dX12_advance_165 ?_
      refine ya_ldc 99999 kc_X12_141 dX12_advance_166 ?_
      refine ya_bipush 10 (by decide) dX12_advance_168 ?_
      refine ya_aload_n 0 rfl dX12_advance_170 ?_
      refine ya_getI fo_X12_138 (hG.o0 83 rfl) (hG.lt0 83 (by decide)) dX12_advance_171 ?_
      refine ya_imul dX12_advance_174 ?_
      refine ya_aload_n 0 rfl dX12_advance_175 ?_
      refine ya_aload_n 0 rfl dX12_advance_176 ?_
      refine ya_getI fo_X12_118 (hG.o0 83 rfl) (hG.lt0 83 (by decide)) dX12_advance_177 ?_
      obtain ⟨x180, e180, h⟩ := ya_ob h
      refine ya_callVi (S := [.int ((10 : Int32) * (d.1 83 11)), .int 99999, .ref (X.2.1 + 83)]) (c_X12_see hG e180) m_X12_see ⟨rfl, rfl⟩ ml_X12_120 rfl ⟨Nat.le_of_ble_eq_true rfl, Nat.le_of_ble_eq_true rfl⟩ (Nat.le_of_ble_eq_true rfl) (hG.lt0 83 (by decide)) (hG.o0 83 rfl) (by decide) rfl rfl ⟨Nat.le_refl _, Nat.le_refl _⟩ dX12_advance_180 rfl ?_
      refine ya_iadd dX12_advance_183 ?_
      refine ya_bipush 48 (by decide) dX12_advance_184 ?_
      refine ya_isub dX12_advance_186 ?_
      refine ya_mmin ml_X12_142 wm_min1 wm_min2 wm_min3 (by decide) (Nat.le_of_ble_eq_true rfl) ⟨Nat.le_refl _, Nat.le_refl _⟩ dX12_advance_187 ?_
      refine ya_putIb fo_X12_138 (hG.o0 83 rfl) (hG.lt0 83 (by decide)) .int pf_X12_11 rfl rfl dX12_advance_190 h (fun d190 h => ?_)
      refine ya_aload_n 0 rfl dX12_advance_193 ?_
      refine ya_dup rfl dX12_advance_194 ?_
      refine ya_getI fo_X12_118 (hG.o0 83 rfl) (hG.lt0 83 (by decide)) dX12_advance_195 ?_
      refine ya_iconst 1 (by decide) dX12_advance_198 ?_
      refine ya_iadd dX12_advance_199 ?_
      refine ya_putIb fo_X12_118 (hG.o0 83 rfl) (hG.lt0 83 (by decide)) .int pf_X12_8 rfl rfl dX12_advance_200 h (fun d200 h => ?_)
      refine ya_goto 144 (by decide) dX12_advance_203 ?_
      exact ih _ h
set_option maxRecDepth 20000 in
theorem w_X12_advance_L83 {X : ya_X} {G : ya_G} {rr : ya_D} {e117 : ya_D → Option ya_D} (hG : ya_Bk ya_sh ya_ln G 0) (he117 : ∀ (d : ya_D), e117 d = some rr → ya_E X Y_X12_advance (ya_M X (none, G, rr) 0 0) 117 [(0, .ref (X.2.1 + 83))] [] G d 0 0) : ∀ (n : Nat) (d : ya_D), f_X12_advance_L83 e117 n d = some rr → ya_E X Y_X12_advance (ya_M X (none, G, rr) 0 0) 83 [(0, .ref (X.2.1 + 83))] [] G d 0 0 := by
  intro n
  induction n with
  | zero => intro d h; cases h
  | succ n ih =>
    intro d h
    rw [f_X12_advance_L83] at h
    refine ya_aload_n 0 rfl dX12_advance_83 ?_
    refine ya_aload_n 0 rfl dX12_advance_84 ?_
    refine ya_getI fo_X12_118 (hG.o0 83 rfl) (hG.lt0 83 (by decide)) dX12_advance_85 ?_
    obtain ⟨x88, e88, h⟩ := ya_ob h
    refine ya_callVi (S := []) (c_X12_see hG e88) m_X12_see ⟨rfl, rfl⟩ ml_X12_120 rfl ⟨Nat.le_of_ble_eq_true rfl, Nat.le_of_ble_eq_true rfl⟩ (Nat.le_of_ble_eq_true rfl) (hG.lt0 83 (by decide)) (hG.o0 83 rfl) (by decide) rfl rfl ⟨Nat.le_refl _, Nat.le_refl _⟩ dX12_advance_88 rfl ?_
    refine ya_i2l dX12_advance_91 ?_
    refine ya_ldc2 97 kc_X12_130 dX12_advance_92 ?_
    refine ya_ldc2 122 kc_X12_132 dX12_advance_95 ?_
    obtain ⟨x98, e98, h⟩ := ya_ob h
    refine ya_callSi (S := []) (c_X12_in hG e98) m_X12_in ⟨rfl, rfl⟩ ml_X12_94 rfl ⟨Nat.le_of_ble_eq_true rfl, Nat.le_of_ble_eq_true rfl⟩ (Nat.le_of_ble_eq_true rfl) ⟨Nat.le_refl _, Nat.le_refl _⟩ dX12_advance_98 rfl ?_
    refine ya_ifeq 117 (by decide) dX12_advance_101 (fun c => ?_) (fun c => ?_)
    · replace h := ya_itet h c
      exact he117 _ h
    · replace h := ya_itef h c
      refine ya_aload_n 0 rfl dX12_advance_104 ?_
      refine ya_dup rfl dX12_advance_105 ?_
      refine ya_getI fo_X12_118 (hG.o0 83 rfl) (hG.lt0 83 (by decide)) dX12_advance_106 ?_
      refine ya_iconst 1 (by decide) dX12_advance_109 ?_
      refine ya_iadd dX12_advance_110 ?_
      refine ya_putIb fo_X12_118 (hG.o0 83 rfl) (hG.lt0 83 (by decide)) .int pf_X12_8 rfl rfl dX12_advance_111 h (fun d111 h => ?_)
      refine ya_goto 83 (by decide) dX12_advance_114 ?_
      exact ih _ h
set_option maxRecDepth 20000 in
theorem c_X12_advance {X : ya_X} {G : ya_G} {d : ya_D} {rr : ya_D} (hG : ya_Bk ya_sh ya_ln G 0) (h : f_X12_advance d = some rr) : ya_Ct X yX12_advance Y_X12_advance [.ref (X.2.1 + 83)] G d (none, G, rr) := by
  refine ya_ct (by decide +kernel) rfl rfl (Nat.le_of_ble_eq_true rfl) ?_
  unfold f_X12_advance at h
  show ya_E X Y_X12_advance (ya_M X (none, G, rr) 0 0) 0 [(0, .ref (X.2.1 + 83))] [] G d 0 0
  refine ya_aload_n 0 rfl dX12_advance_0 ?_
  refine ya_aload_n 0 rfl dX12_advance_1 ?_
  refine ya_getI fo_X12_118 (hG.o0 83 rfl) (hG.lt0 83 (by decide)) dX12_advance_2 ?_
  obtain ⟨x5, e5, h⟩ := ya_ob h
  refine ya_callVi (S := []) (c_X12_see hG e5) m_X12_see ⟨rfl, rfl⟩ ml_X12_120 rfl ⟨Nat.le_of_ble_eq_true rfl, Nat.le_of_ble_eq_true rfl⟩ (Nat.le_of_ble_eq_true rfl) (hG.lt0 83 (by decide)) (hG.o0 83 rfl) (by decide) rfl rfl ⟨Nat.le_refl _, Nat.le_refl _⟩ dX12_advance_5 rfl ?_
  refine ya_bipush 32 (by decide) dX12_advance_8 ?_
  refine ya_j0_s h (ya_E X Y_X12_advance (ya_M X (none, G, rr) 0 0) 26 [(0, .ref (X.2.1 + 83))] [] G d 0 0) (fun h => ?_) (fun k26 hk26 h => ?_)
  · refine ya_aload_n 0 rfl dX12_advance_26 ?_
    refine ya_dup rfl dX12_advance_27 ?_
    refine ya_getI fo_X12_118 (hG.o0 83 rfl) (hG.lt0 83 (by decide)) dX12_advance_28 ?_
    refine ya_iconst 1 (by decide) dX12_advance_31 ?_
    refine ya_iadd dX12_advance_32 ?_
    refine ya_putIb fo_X12_118 (hG.o0 83 rfl) (hG.lt0 83 (by decide)) .int pf_X12_8 rfl rfl dX12_advance_33 h (fun d33 h => ?_)
    refine ya_goto 0 (by decide) dX12_advance_36 ?_
    refine w_X12_advance_L0 hG (fun d_39 h => ?_) ya_F _ h
    refine ya_aload_n 0 rfl dX12_advance_39 ?_
    refine ya_aload_n 0 rfl dX12_advance_40 ?_
    refine ya_getI fo_X12_118 (hG.o0 83 rfl) (hG.lt0 83 (by decide)) dX12_advance_41 ?_
    refine ya_putIb fo_X12_124 (hG.o0 83 rfl) (hG.lt0 83 (by decide)) .int pf_X12_9 rfl rfl dX12_advance_44 h (fun d44 h => ?_)
    refine ya_aload_n 0 rfl dX12_advance_47 ?_
    refine ya_aload_n 0 rfl dX12_advance_48 ?_
    refine ya_getI fo_X12_118 (hG.o0 83 rfl) (hG.lt0 83 (by decide)) dX12_advance_49 ?_
    obtain ⟨x52, e52, h⟩ := ya_ob h
    refine ya_callVi (S := []) (c_X12_see hG e52) m_X12_see ⟨rfl, rfl⟩ ml_X12_120 rfl ⟨Nat.le_of_ble_eq_true rfl, Nat.le_of_ble_eq_true rfl⟩ (Nat.le_of_ble_eq_true rfl) (hG.lt0 83 (by decide)) (hG.o0 83 rfl) (by decide) rfl rfl ⟨Nat.le_refl _, Nat.le_refl _⟩ dX12_advance_52 rfl ?_
    refine ya_istore_n [(1, .int x52), (0, .ref (X.2.1 + 83))] (by decide) rfl dX12_advance_55 ?_
    refine ya_iload_n 0 rfl dX12_advance_56 ?_
    refine ya_iconst (-1) (by decide) dX12_advance_57 ?_
    refine ya_icmp_ne 69 (by decide) dX12_advance_58 (fun c => ?_) (fun c => ?_)
    · replace h := ya_itef h c
      refine ya_iload_n 0 rfl dX12_advance_69 ?_
      refine ya_i2l dX12_advance_70 ?_
      refine ya_ldc2 97 kc_X12_130 dX12_advance_71 ?_
      refine ya_ldc2 122 kc_X12_132 dX12_advance_74 ?_
      obtain ⟨x77, e77, h⟩ := ya_ob h
      refine ya_callSi (S := []) (c_X12_in hG e77) m_X12_in ⟨rfl, rfl⟩ ml_X12_94 rfl ⟨Nat.le_of_ble_eq_true rfl, Nat.le_of_ble_eq_true rfl⟩ (Nat.le_of_ble_eq_true rfl) ⟨Nat.le_refl _, Nat.le_refl _⟩ dX12_advance_77 rfl ?_
      refine ya_ifeq 125 (by decide) dX12_advance_80 (fun c => ?_) (fun c => ?_)
      · replace h := ya_itet h c
        refine ya_iload_n 0 rfl dX12_advance_125 ?_
        refine ya_i2l dX12_advance_126 ?_
        refine ya_ldc2 48 kc_X12_134 dX12_advance_127 ?_
        refine ya_ldc2 57 kc_X12_136 dX12_advance_130 ?_
        obtain ⟨x133, e133, h⟩ := ya_ob h
        refine ya_callSi (S := []) (c_X12_in hG e133) m_X12_in ⟨rfl, rfl⟩ ml_X12_94 rfl ⟨Nat.le_of_ble_eq_true rfl, Nat.le_of_ble_eq_true rfl⟩ (Nat.le_of_ble_eq_true rfl) ⟨Nat.le_refl _, Nat.le_refl _⟩ dX12_advance_133 rfl ?_
        refine ya_ifeq 214 (by decide) dX12_advance_136 (fun c => ?_) (fun c => ?_)
        · replace h := ya_itet h c
          refine ya_aload_n 1 rfl dX12_advance_214 ?_
          refine ya_iload_n 0 rfl dX12_advance_215 ?_
          refine ya_bipush 59 (by decide) dX12_advance_216 ?_
          refine ya_j1_s h (fun t0_226 => ya_E X Y_X12_advance (ya_M X (none, G, rr) 0 0) 226 [(0, .ref (X.2.1 + 83))] [.int t0_226, .ref (X.2.1 + 83)] G d44 0 0) (fun t0_226 h => ?_) (fun k226 hk226 h => ?_)
          · refine ya_putIb fo_X12_127 (hG.o0 83 rfl) (hG.lt0 83 (by decide)) .int pf_X12_10 rfl rfl dX12_advance_226 h (fun d226 h => ?_)
            refine ya_aload_n 0 rfl dX12_advance_229 ?_
            refine ya_dup rfl dX12_advance_230 ?_
            refine ya_getI fo_X12_118 (hG.o0 83 rfl) (hG.lt0 83 (by decide)) dX12_advance_231 ?_
            refine ya_iconst 1 (by decide) dX12_advance_234 ?_
            refine ya_iadd dX12_advance_235 ?_
            refine ya_putIb fo_X12_118 (hG.o0 83 rfl) (hG.lt0 83 (by decide)) .int pf_X12_8 rfl rfl dX12_advance_236 h (fun d236 h => ?_)
            cases h
            exact ya_vret rfl rfl rfl rfl rfl (Nat.le_refl _) dX12_advance_239
          · refine ya_icmp_ne 225 (by decide) dX12_advance_218 (fun c => ?_) (fun c => ?_)
            · replace h := ya_itef h c
              refine ya_iconst 4 (by decide) dX12_advance_225 ?_
              refine ya_sub [(0, .ref (X.2.1 + 83))] [1] rfl ?_
              exact hk226 _ h
            · replace h := ya_itet h c
              refine ya_iconst 3 (by decide) dX12_advance_221 ?_
              refine ya_goto 226 (by decide) dX12_advance_222 ?_
              refine ya_sub [(0, .ref (X.2.1 + 83))] [1] rfl ?_
              exact hk226 _ h
        · replace h := ya_itef h c
          refine ya_aload_n 1 rfl dX12_advance_139 ?_
          refine ya_iconst 0 (by decide) dX12_advance_140 ?_
          refine ya_putIb fo_X12_138 (hG.o0 83 rfl) (hG.lt0 83 (by decide)) .int pf_X12_11 rfl rfl dX12_advance_141 h (fun d141 h => ?_)
          refine ya_sub [(0, .ref (X.2.1 + 83))] [1] rfl ?_
          refine w_X12_advance_L144 hG (fun d_206 h => ?_) ya_F _ h
          refine ya_aload_n 0 rfl dX12_advance_206 ?_
          refine ya_iconst 2 (by decide) dX12_advance_207 ?_
          refine ya_putIb fo_X12_127 (hG.o0 83 rfl) (hG.lt0 83 (by decide)) .int pf_X12_10 rfl rfl dX12_advance_208 h (fun d208 h => ?_)
          refine ya_goto 239 (by decide) dX12_advance_211 ?_
          cases h
          exact ya_vret rfl rfl rfl rfl rfl (Nat.le_refl _) dX12_advance_239
      · replace h := ya_itef h c
        refine ya_sub [(0, .ref (X.2.1 + 83))] [1] rfl ?_
        refine w_X12_advance_L83 hG (fun d_117 h => ?_) ya_F _ h
        refine ya_aload_n 0 rfl dX12_advance_117 ?_
        refine ya_iconst 1 (by decide) dX12_advance_118 ?_
        refine ya_putIb fo_X12_127 (hG.o0 83 rfl) (hG.lt0 83 (by decide)) .int pf_X12_10 rfl rfl dX12_advance_119 h (fun d119 h => ?_)
        refine ya_goto 239 (by decide) dX12_advance_122 ?_
        cases h
        exact ya_vret rfl rfl rfl rfl rfl (Nat.le_refl _) dX12_advance_239
    · replace h := ya_itet h c
      refine ya_aload_n 1 rfl dX12_advance_61 ?_
      refine ya_iconst 0 (by decide) dX12_advance_62 ?_
      refine ya_putIb fo_X12_127 (hG.o0 83 rfl) (hG.lt0 83 (by decide)) .int pf_X12_10 rfl rfl dX12_advance_63 h (fun d63 h => ?_)
      refine ya_goto 239 (by decide) dX12_advance_66 ?_
      cases h
      exact ya_vret rfl rfl rfl rfl rfl (Nat.le_refl _) dX12_advance_239
  · refine ya_icmp_eq 26 (by decide) dX12_advance_10 (fun c => ?_) (fun c => ?_)
    · replace h := ya_itet h c
      exact hk26  h
    · replace h := ya_itef h c
      refine ya_aload_n 0 rfl dX12_advance_13 ?_
      refine ya_aload_n 0 rfl dX12_advance_14 ?_
      refine ya_getI fo_X12_118 (hG.o0 83 rfl) (hG.lt0 83 (by decide)) dX12_advance_15 ?_
      obtain ⟨x18, e18, h⟩ := ya_ob h
      refine ya_callVi (S := []) (c_X12_see hG e18) m_X12_see ⟨rfl, rfl⟩ ml_X12_120 rfl ⟨Nat.le_of_ble_eq_true rfl, Nat.le_of_ble_eq_true rfl⟩ (Nat.le_of_ble_eq_true rfl) (hG.lt0 83 (by decide)) (hG.o0 83 rfl) (by decide) rfl rfl ⟨Nat.le_refl _, Nat.le_refl _⟩ dX12_advance_18 rfl ?_
      refine ya_bipush 10 (by decide) dX12_advance_21 ?_
      refine ya_icmp_ne 39 (by decide) dX12_advance_23 (fun c => ?_) (fun c => ?_)
      · replace h := ya_itef h c
        refine ya_aload_n 0 rfl dX12_advance_39 ?_
        refine ya_aload_n 0 rfl dX12_advance_40 ?_
        refine ya_getI fo_X12_118 (hG.o0 83 rfl) (hG.lt0 83 (by decide)) dX12_advance_41 ?_
        refine ya_putIb fo_X12_124 (hG.o0 83 rfl) (hG.lt0 83 (by decide)) .int pf_X12_9 rfl rfl dX12_advance_44 h (fun d44 h => ?_)
        refine ya_aload_n 0 rfl dX12_advance_47 ?_
        refine ya_aload_n 0 rfl dX12_advance_48 ?_
        refine ya_getI fo_X12_118 (hG.o0 83 rfl) (hG.lt0 83 (by decide)) dX12_advance_49 ?_
        obtain ⟨x52, e52, h⟩ := ya_ob h
        refine ya_callVi (S := []) (c_X12_see hG e52) m_X12_see ⟨rfl, rfl⟩ ml_X12_120 rfl ⟨Nat.le_of_ble_eq_true rfl, Nat.le_of_ble_eq_true rfl⟩ (Nat.le_of_ble_eq_true rfl) (hG.lt0 83 (by decide)) (hG.o0 83 rfl) (by decide) rfl rfl ⟨Nat.le_refl _, Nat.le_refl _⟩ dX12_advance_52 rfl ?_
        refine ya_istore_n [(1, .int x52), (0, .ref (X.2.1 + 83))] (by decide) rfl dX12_advance_55 ?_
        refine ya_iload_n 0 rfl dX12_advance_56 ?_
        refine ya_iconst (-1) (by decide) dX12_advance_57 ?_
        refine ya_icmp_ne 69 (by decide) dX12_advance_58 (fun c => ?_) (fun c => ?_)
        · replace h := ya_itef h c
          refine ya_iload_n 0 rfl dX12_advance_69 ?_
          refine ya_i2l dX12_advance_70 ?_
          refine ya_ldc2 97 kc_X12_130 dX12_advance_71 ?_
          refine ya_ldc2 122 kc_X12_132 dX12_advance_74 ?_
          obtain ⟨x77, e77, h⟩ := ya_ob h
          refine ya_callSi (S := []) (c_X12_in hG e77) m_X12_in ⟨rfl, rfl⟩ ml_X12_94 rfl ⟨Nat.le_of_ble_eq_true rfl, Nat.le_of_ble_eq_true rfl⟩ (Nat.le_of_ble_eq_true rfl) ⟨Nat.le_refl _, Nat.le_refl _⟩ dX12_advance_77 rfl ?_
          refine ya_ifeq 125 (by decide) dX12_advance_80 (fun c => ?_) (fun c => ?_)
          · replace h := ya_itet h c
            refine ya_iload_n 0 rfl dX12_advance_125 ?_
            refine ya_i2l dX12_advance_126 ?_
            refine ya_ldc2 48 kc_X12_134 dX12_advance_127 ?_
            refine ya_ldc2 57 kc_X12_136 dX12_advance_130 ?_
            obtain ⟨x133, e133, h⟩ := ya_ob h
            refine ya_callSi (S := []) (c_X12_in hG e133) m_X12_in ⟨rfl, rfl⟩ ml_X12_94 rfl ⟨Nat.le_of_ble_eq_true rfl, Nat.le_of_ble_eq_true rfl⟩ (Nat.le_of_ble_eq_true rfl) ⟨Nat.le_refl _, Nat.le_refl _⟩ dX12_advance_133 rfl ?_
            refine ya_ifeq 214 (by decide) dX12_advance_136 (fun c => ?_) (fun c => ?_)
            · replace h := ya_itet h c
              refine ya_aload_n 1 rfl dX12_advance_214 ?_
              refine ya_iload_n 0 rfl dX12_advance_215 ?_
              refine ya_bipush 59 (by decide) dX12_advance_216 ?_
              refine ya_j1_s h (fun t0_226 => ya_E X Y_X12_advance (ya_M X (none, G, rr) 0 0) 226 [(0, .ref (X.2.1 + 83))] [.int t0_226, .ref (X.2.1 + 83)] G d44 0 0) (fun t0_226 h => ?_) (fun k226 hk226 h => ?_)
              · refine ya_putIb fo_X12_127 (hG.o0 83 rfl) (hG.lt0 83 (by decide)) .int pf_X12_10 rfl rfl dX12_advance_226 h (fun d226 h => ?_)
                refine ya_aload_n 0 rfl dX12_advance_229 ?_
                refine ya_dup rfl dX12_advance_230 ?_
                refine ya_getI fo_X12_118 (hG.o0 83 rfl) (hG.lt0 83 (by decide)) dX12_advance_231 ?_
                refine ya_iconst 1 (by decide) dX12_advance_234 ?_
                refine ya_iadd dX12_advance_235 ?_
                refine ya_putIb fo_X12_118 (hG.o0 83 rfl) (hG.lt0 83 (by decide)) .int pf_X12_8 rfl rfl dX12_advance_236 h (fun d236 h => ?_)
                cases h
                exact ya_vret rfl rfl rfl rfl rfl (Nat.le_refl _) dX12_advance_239
              · refine ya_icmp_ne 225 (by decide) dX12_advance_218 (fun c => ?_) (fun c => ?_)
                · replace h := ya_itef h c
                  refine ya_iconst 4 (by decide) dX12_advance_225 ?_
                  refine ya_sub [(0, .ref (X.2.1 + 83))] [1] rfl ?_
                  exact hk226 _ h
                · replace h := ya_itet h c
                  refine ya_iconst 3 (by decide) dX12_advance_221 ?_
                  refine ya_goto 226 (by decide) dX12_advance_222 ?_
                  refine ya_sub [(0, .ref (X.2.1 + 83))] [1] rfl ?_
                  exact hk226 _ h
            · replace h := ya_itef h c
              refine ya_aload_n 1 rfl dX12_advance_139 ?_
              refine ya_iconst 0 (by decide) dX12_advance_140 ?_
              refine ya_putIb fo_X12_138 (hG.o0 83 rfl) (hG.lt0 83 (by decide)) .int pf_X12_11 rfl rfl dX12_advance_141 h (fun d141 h => ?_)
              refine ya_sub [(0, .ref (X.2.1 + 83))] [1] rfl ?_
              refine w_X12_advance_L144 hG (fun d_206 h => ?_) ya_F _ h
              refine ya_aload_n 0 rfl dX12_advance_206 ?_
              refine ya_iconst 2 (by decide) dX12_advance_207 ?_
              refine ya_putIb fo_X12_127 (hG.o0 83 rfl) (hG.lt0 83 (by decide)) .int pf_X12_10 rfl rfl dX12_advance_208 h (fun d208 h => ?_)
              refine ya_goto 239 (by decide) dX12_advance_211 ?_
              cases h
              exact ya_vret rfl rfl rfl rfl rfl (Nat.le_refl _) dX12_advance_239
          · replace h := ya_itef h c
            refine ya_sub [(0, .ref (X.2.1 + 83))] [1] rfl ?_
            refine w_X12_advance_L83 hG (fun d_117 h => ?_) ya_F _ h
            refine ya_aload_n 0 rfl dX12_advance_117 ?_
            refine ya_iconst 1 (by decide) dX12_advance_118 ?_
            refine ya_putIb fo_X12_127 (hG.o0 83 rfl) (hG.lt0 83 (by decide)) .int pf_X12_10 rfl rfl dX12_advance_119 h (fun d119 h => ?_)
            refine ya_goto 239 (by decide) dX12_advance_122 ?_
            cases h
            exact ya_vret rfl rfl rfl rfl rfl (Nat.le_refl _) dX12_advance_239
        · replace h := ya_itet h c
          refine ya_aload_n 1 rfl dX12_advance_61 ?_
          refine ya_iconst 0 (by decide) dX12_advance_62 ?_
          refine ya_putIb fo_X12_127 (hG.o0 83 rfl) (hG.lt0 83 (by decide)) .int pf_X12_10 rfl rfl dX12_advance_63 h (fun d63 h => ?_)
          refine ya_goto 239 (by decide) dX12_advance_66 ?_
          cases h
          exact ya_vret rfl rfl rfl rfl rfl (Nat.le_refl _) dX12_advance_239
      · replace h := ya_itet h c
        exact hk26  h
set_option maxRecDepth 20000 in
theorem c_X12_good {X : ya_X} {G : ya_G} {d : ya_D} {rr : Int32} (hG : ya_Bk ya_sh ya_ln G 0) (h : f_X12_good d = some rr) : ya_Ct X yX12_good Y_X12_good [.ref (X.2.1 + 83)] G d (some (.int rr), G, d) := by
  refine ya_ct (by decide +kernel) rfl rfl (Nat.le_of_ble_eq_true rfl) ?_
  unfold f_X12_good at h
  show ya_E X Y_X12_good (ya_M X (some (.int rr), G, d) 0 0) 0 [(0, .ref (X.2.1 + 83))] [] G d 0 0
  refine ya_aload_n 0 rfl dX12_good_0 ?_
  refine ya_getI fo_X12_147 (hG.o0 83 rfl) (hG.lt0 83 (by decide)) dX12_good_1 ?_
  refine ya_ifne 11 (by decide) dX12_good_4 (fun c => ?_) (fun c => ?_)
  · replace h := ya_itef h c
    refine ya_iconst 0 (by decide) dX12_good_11 ?_
    cases h
    exact ya_zret .boolean rfl rfl rfl rfl (by decide) rfl (Nat.le_refl _) dX12_good_12
  · replace h := ya_itet h c
    refine ya_iconst 1 (by decide) dX12_good_7 ?_
    refine ya_goto 12 (by decide) dX12_good_8 ?_
    cases h
    exact ya_zret .boolean rfl rfl rfl rfl (by decide) rfl (Nat.le_refl _) dX12_good_12
set_option maxRecDepth 20000 in
theorem c_X12_errs {X : ya_X} {G : ya_G} {v1 : Int32} {d : ya_D} {rr : ya_D} (hG : ya_Bk ya_sh ya_ln G 0) (h : f_X12_errs v1 d = some rr) : ya_Ct X yX12_errs Y_X12_errs [.ref (X.2.1 + 83), .int v1] G d (none, G, rr) := by
  refine ya_ct (by decide +kernel) rfl rfl (Nat.le_of_ble_eq_true rfl) ?_
  unfold f_X12_errs at h
  show ya_E X Y_X12_errs (ya_M X (none, G, rr) 0 0) 0 [(0, .ref (X.2.1 + 83)), (1, .int v1)] [] G d 0 0
  refine ya_aload_n 0 rfl dX12_errs_0 ?_
  obtain ⟨x1, e1, h⟩ := ya_ob h
  refine ya_callVi (S := []) (c_X12_good hG e1) m_X12_good ⟨rfl, rfl⟩ ml_X12_150 rfl ⟨Nat.le_of_ble_eq_true rfl, Nat.le_of_ble_eq_true rfl⟩ (Nat.le_of_ble_eq_true rfl) (hG.lt0 83 (by decide)) (hG.o0 83 rfl) (by decide) rfl rfl ⟨Nat.le_refl _, Nat.le_refl _⟩ dX12_errs_1 rfl ?_
  refine ya_ifne 8 (by decide) dX12_errs_4 (fun c => ?_) (fun c => ?_)
  · replace h := ya_itef h c
    refine ya_aload_n 0 rfl dX12_errs_8 ?_
    refine ya_iload_n 1 rfl dX12_errs_9 ?_
    refine ya_putIb fo_X12_147 (hG.o0 83 rfl) (hG.lt0 83 (by decide)) .int pf_X12_12 rfl rfl dX12_errs_10 h (fun d10 h => ?_)
    refine ya_aload_n 0 rfl dX12_errs_13 ?_
    refine ya_aload_n 0 rfl dX12_errs_14 ?_
    refine ya_getI fo_X12_124 (hG.o0 83 rfl) (hG.lt0 83 (by decide)) dX12_errs_15 ?_
    refine ya_putIb fo_X12_27 (hG.o0 83 rfl) (hG.lt0 83 (by decide)) .int pf_X12_13 rfl rfl dX12_errs_18 h (fun d18 h => ?_)
    cases h
    exact ya_vret rfl rfl rfl rfl rfl (Nat.le_refl _) dX12_errs_21
  · replace h := ya_itet h c
    cases h
    exact ya_vret rfl rfl rfl rfl rfl (Nat.le_refl _) dX12_errs_7
set_option maxRecDepth 20000 in
theorem w_X12_is_L39 {X : ya_X} {G : ya_G} {s1 : Nat} {d : ya_D} {rr : Int32} (hG : ya_Bk ya_sh ya_ln G 0) : ∀ (n : Nat) (v2 : Int32) (v3 : Int32), f_X12_is_L39 s1 d n v2 v3 = some rr → ya_E X Y_X12_is (ya_M X (some (.int rr), G, d) 0 0) 39 [(0, .ref (X.2.1 + 83)), (1, .ref (X.2.2.2.2.2.2.1 s1)), (2, .int v2), (3, .int v3)] [] G d 0 0 := by
  intro n
  induction n with
  | zero => intro v2 v3 h; cases h
  | succ n ih =>
    intro v2 v3 h
    rw [f_X12_is_L39] at h
    refine ya_iload_n 3 rfl dX12_is_39 ?_
    refine ya_aload_n 1 rfl dX12_is_40 ?_
    refine ya_str_length ml_X12_154 (by decide) (by decide) (Nat.le_of_ble_eq_true rfl) ⟨Nat.le_refl _, Nat.le_refl _⟩ dX12_is_41 h (fun x41 h => ?_)
    refine ya_icmp_ge 82 (by decide) dX12_is_44 (fun c => ?_) (fun c => ?_)
    · replace h := ya_itet h c
      refine ya_iload_n 2 rfl dX12_is_82 ?_
      refine ya_zretb dX12_is_83 h (fun hz h => ?_)
      cases h
      exact ya_zret .boolean rfl rfl rfl rfl hz rfl (Nat.le_refl _) dX12_is_83
    · replace h := ya_itef h c
      refine ya_iload_n 2 rfl dX12_is_47 ?_
      refine ya_ifeq 82 (by decide) dX12_is_48 (fun c => ?_) (fun c => ?_)
      · replace h := ya_itet h c
        refine ya_iload_n 2 rfl dX12_is_82 ?_
        refine ya_zretb dX12_is_83 h (fun hz h => ?_)
        cases h
        exact ya_zret .boolean rfl rfl rfl rfl hz rfl (Nat.le_refl _) dX12_is_83
      · replace h := ya_itef h c
        refine ya_aload_n 0 rfl dX12_is_51 ?_
        refine ya_getR fo_X12_20 (hG.o0 83 rfl) (hG.lt0 83 (by decide)) (hG.l0 85 rfl) dX12_is_52 ?_
        refine ya_aload_n 0 rfl dX12_is_55 ?_
        refine ya_getI fo_X12_124 (hG.o0 83 rfl) (hG.lt0 83 (by decide)) dX12_is_56 ?_
        refine ya_iload_n 3 rfl dX12_is_59 ?_
        refine ya_iadd dX12_is_60 ?_
        refine ya_bald (hG.s0 87 rfl) (hG.lt0 87 (by decide)) dX12_is_61 h (fun x61 h => ?_)
        refine ya_aload_n 1 rfl dX12_is_62 ?_
        refine ya_iload_n 3 rfl dX12_is_63 ?_
        refine ya_str_charAt ml_X12_160 (by decide) (by decide) (Nat.le_of_ble_eq_true rfl) ⟨Nat.le_refl _, Nat.le_refl _⟩ dX12_is_64 h (fun x64 h => ?_)
        refine ya_j1_s h (fun t0_75 => ya_E X Y_X12_is (ya_M X (some (.int rr), G, d) 0 0) 75 [(0, .ref (X.2.1 + 83)), (1, .ref (X.2.2.2.2.2.2.1 s1)), (3, .int v3)] [.int t0_75] G d 0 0) (fun t0_75 h => ?_) (fun k75 hk75 h => ?_)
        · refine ya_istore_n [(2, .int t0_75), (0, .ref (X.2.1 + 83)), (1, .ref (X.2.2.2.2.2.2.1 s1)), (3, .int v3)] (by decide) rfl dX12_is_75 ?_
          refine ya_iinc (v3 + 1) rfl 3 rfl [(3, .int (v3 + 1)), (2, .int t0_75), (0, .ref (X.2.1 + 83)), (1, .ref (X.2.2.2.2.2.2.1 s1))] (by decide) rfl dX12_is_76 ?_
          refine ya_goto 39 (by decide) dX12_is_79 ?_
          refine ya_sub [(0, .ref (X.2.1 + 83)), (1, .ref (X.2.2.2.2.2.2.1 s1)), (2, .int t0_75), (3, .int (v3 + 1))] [2, 3, 1, 0] rfl ?_
          exact ih _ _ h
        · refine ya_icmp_ne 74 (by decide) dX12_is_67 (fun c => ?_) (fun c => ?_)
          · replace h := ya_itef h c
            refine ya_iconst 0 (by decide) dX12_is_74 ?_
            refine ya_sub [(0, .ref (X.2.1 + 83)), (1, .ref (X.2.2.2.2.2.2.1 s1)), (3, .int v3)] [0, 1, 3] rfl ?_
            exact hk75 _ h
          · replace h := ya_itet h c
            refine ya_iconst 1 (by decide) dX12_is_70 ?_
            refine ya_goto 75 (by decide) dX12_is_71 ?_
            refine ya_sub [(0, .ref (X.2.1 + 83)), (1, .ref (X.2.2.2.2.2.2.1 s1)), (3, .int v3)] [0, 1, 3] rfl ?_
            exact hk75 _ h
set_option maxRecDepth 20000 in
theorem c_X12_is {X : ya_X} {G : ya_G} {s1 : Nat} {d : ya_D} {rr : Int32} (hG : ya_Bk ya_sh ya_ln G 0) (h : f_X12_is s1 d = some rr) : ya_Ct X yX12_is Y_X12_is [.ref (X.2.1 + 83), .ref (X.2.2.2.2.2.2.1 s1)] G d (some (.int rr), G, d) := by
  refine ya_ct (by decide +kernel) rfl rfl (Nat.le_of_ble_eq_true rfl) ?_
  unfold f_X12_is at h
  show ya_E X Y_X12_is (ya_M X (some (.int rr), G, d) 0 0) 0 [(0, .ref (X.2.1 + 83)), (1, .ref (X.2.2.2.2.2.2.1 s1))] [] G d 0 0
  refine ya_aload_n 0 rfl dX12_is_0 ?_
  obtain ⟨x1, e1, h⟩ := ya_ob h
  refine ya_callVi (S := []) (c_X12_good hG e1) m_X12_good ⟨rfl, rfl⟩ ml_X12_150 rfl ⟨Nat.le_of_ble_eq_true rfl, Nat.le_of_ble_eq_true rfl⟩ (Nat.le_of_ble_eq_true rfl) (hG.lt0 83 (by decide)) (hG.o0 83 rfl) (by decide) rfl rfl ⟨Nat.le_refl _, Nat.le_refl _⟩ dX12_is_1 rfl ?_
  refine ya_j1_s h (fun t0_36 => ya_E X Y_X12_is (ya_M X (some (.int rr), G, d) 0 0) 36 [(0, .ref (X.2.1 + 83)), (1, .ref (X.2.2.2.2.2.2.1 s1))] [.int t0_36] G d 0 0) (fun t0_36 h => ?_) (fun k36 hk36 h => ?_)
  · refine ya_istore_n [(2, .int t0_36), (0, .ref (X.2.1 + 83)), (1, .ref (X.2.2.2.2.2.2.1 s1))] (by decide) rfl dX12_is_36 ?_
    refine ya_iconst 0 (by decide) dX12_is_37 ?_
    refine ya_istore_n [(3, .int 0), (2, .int t0_36), (0, .ref (X.2.1 + 83)), (1, .ref (X.2.2.2.2.2.2.1 s1))] (by decide) rfl dX12_is_38 ?_
    refine ya_sub [(0, .ref (X.2.1 + 83)), (1, .ref (X.2.2.2.2.2.2.1 s1)), (2, .int t0_36), (3, .int 0)] [2, 3, 1, 0] rfl ?_
    refine w_X12_is_L39 hG  ya_F _ _ h
  · refine ya_j0_s h (ya_E X Y_X12_is (ya_M X (some (.int rr), G, d) 0 0) 35 [(0, .ref (X.2.1 + 83)), (1, .ref (X.2.2.2.2.2.2.1 s1))] [] G d 0 0) (fun h => ?_) (fun k35 hk35 h => ?_)
    · refine ya_iconst 0 (by decide) dX12_is_35 ?_
      exact hk36 _ h
    · refine ya_ifeq 35 (by decide) dX12_is_4 (fun c => ?_) (fun c => ?_)
      · replace h := ya_itet h c
        exact hk35  h
      · replace h := ya_itef h c
        refine ya_aload_n 0 rfl dX12_is_7 ?_
        refine ya_getI fo_X12_127 (hG.o0 83 rfl) (hG.lt0 83 (by decide)) dX12_is_8 ?_
        refine ya_iconst 1 (by decide) dX12_is_11 ?_
        refine ya_icmp_ne 35 (by decide) dX12_is_12 (fun c => ?_) (fun c => ?_)
        · replace h := ya_itef h c
          exact hk35  h
        · replace h := ya_itet h c
          refine ya_aload_n 0 rfl dX12_is_15 ?_
          refine ya_getI fo_X12_118 (hG.o0 83 rfl) (hG.lt0 83 (by decide)) dX12_is_16 ?_
          refine ya_aload_n 0 rfl dX12_is_19 ?_
          refine ya_getI fo_X12_124 (hG.o0 83 rfl) (hG.lt0 83 (by decide)) dX12_is_20 ?_
          refine ya_isub dX12_is_23 ?_
          refine ya_aload_n 1 rfl dX12_is_24 ?_
          refine ya_str_length ml_X12_154 (by decide) (by decide) (Nat.le_of_ble_eq_true rfl) ⟨Nat.le_refl _, Nat.le_refl _⟩ dX12_is_25 h (fun x25 h => ?_)
          refine ya_icmp_ne 35 (by decide) dX12_is_28 (fun c => ?_) (fun c => ?_)
          · replace h := ya_itef h c
            exact hk35  h
          · replace h := ya_itet h c
            refine ya_iconst 1 (by decide) dX12_is_31 ?_
            refine ya_goto 36 (by decide) dX12_is_32 ?_
            exact hk36 _ h
set_option maxRecDepth 20000 in
theorem c_X12_takes {X : ya_X} {G : ya_G} {s1 : Nat} {d : ya_D} {rr : (Int32 × ya_D)} (hG : ya_Bk ya_sh ya_ln G 0) (h : f_X12_takes s1 d = some rr) : ya_Ct X yX12_takes Y_X12_takes [.ref (X.2.1 + 83), .ref (X.2.2.2.2.2.2.1 s1)] G d (some (.int rr.1), G, rr.2) := by
  refine ya_ct (by decide +kernel) rfl rfl (Nat.le_of_ble_eq_true rfl) ?_
  unfold f_X12_takes at h
  show ya_E X Y_X12_takes (ya_M X (some (.int rr.1), G, rr.2) 0 0) 0 [(0, .ref (X.2.1 + 83)), (1, .ref (X.2.2.2.2.2.2.1 s1))] [] G d 0 0
  refine ya_aload_n 0 rfl dX12_takes_0 ?_
  refine ya_aload_n 1 rfl dX12_takes_1 ?_
  obtain ⟨x2, e2, h⟩ := ya_ob h
  refine ya_callVi (S := []) (c_X12_is hG e2) m_X12_is ⟨rfl, rfl⟩ ml_X12_164 rfl ⟨Nat.le_of_ble_eq_true rfl, Nat.le_of_ble_eq_true rfl⟩ (Nat.le_of_ble_eq_true rfl) (hG.lt0 83 (by decide)) (hG.o0 83 rfl) (by decide) rfl rfl ⟨Nat.le_refl _, Nat.le_refl _⟩ dX12_takes_2 rfl ?_
  refine ya_istore_n [(2, .int x2), (0, .ref (X.2.1 + 83)), (1, .ref (X.2.2.2.2.2.2.1 s1))] (by decide) rfl dX12_takes_5 ?_
  refine ya_iload_n 0 rfl dX12_takes_6 ?_
  refine ya_ifeq 14 (by decide) dX12_takes_7 (fun c => ?_) (fun c => ?_)
  · replace h := ya_itet h c
    refine ya_iload_n 0 rfl dX12_takes_14 ?_
    refine ya_zretb dX12_takes_15 h (fun hz h => ?_)
    cases h
    exact ya_zret .boolean rfl rfl rfl rfl hz rfl (Nat.le_refl _) dX12_takes_15
  · replace h := ya_itef h c
    refine ya_aload_n 1 rfl dX12_takes_10 ?_
    obtain ⟨d11, e11, h⟩ := ya_ob h
    refine ya_callVv (S := []) (c_X12_advance hG e11) m_X12_advance ⟨rfl, rfl⟩ ml_X12_168 rfl ⟨Nat.le_of_ble_eq_true rfl, Nat.le_of_ble_eq_true rfl⟩ (Nat.le_of_ble_eq_true rfl) (hG.lt0 83 (by decide)) (hG.o0 83 rfl) (by decide) rfl rfl ⟨Nat.le_refl _, Nat.le_refl _⟩ dX12_takes_11 rfl ?_
    refine ya_iload_n 0 rfl dX12_takes_14 ?_
    refine ya_zretb dX12_takes_15 h (fun hz h => ?_)
    cases h
    exact ya_zret .boolean rfl rfl rfl rfl hz rfl (Nat.le_refl _) dX12_takes_15
set_option maxRecDepth 20000 in
theorem c_X12_needs {X : ya_X} {G : ya_G} {s1 : Nat} {d : ya_D} {rr : ya_D} (hG : ya_Bk ya_sh ya_ln G 0) (h : f_X12_needs s1 d = some rr) : ya_Ct X yX12_needs Y_X12_needs [.ref (X.2.1 + 83), .ref (X.2.2.2.2.2.2.1 s1)] G d (none, G, rr) := by
  refine ya_ct (by decide +kernel) rfl rfl (Nat.le_of_ble_eq_true rfl) ?_
  unfold f_X12_needs at h
  show ya_E X Y_X12_needs (ya_M X (none, G, rr) 0 0) 0 [(0, .ref (X.2.1 + 83)), (1, .ref (X.2.2.2.2.2.2.1 s1))] [] G d 0 0
  refine ya_aload_n 0 rfl dX12_needs_0 ?_
  refine ya_aload_n 1 rfl dX12_needs_1 ?_
  obtain ⟨x2, d2, e2, h⟩ := ya_ob2 h
  refine ya_callVi (S := []) (c_X12_takes hG e2) m_X12_takes ⟨rfl, rfl⟩ ml_X12_171 rfl ⟨Nat.le_of_ble_eq_true rfl, Nat.le_of_ble_eq_true rfl⟩ (Nat.le_of_ble_eq_true rfl) (hG.lt0 83 (by decide)) (hG.o0 83 rfl) (by decide) rfl rfl ⟨Nat.le_refl _, Nat.le_refl _⟩ dX12_needs_2 rfl ?_
  refine ya_ifne 13 (by decide) dX12_needs_5 (fun c => ?_) (fun c => ?_)
  · replace h := ya_itef h c
    cases h
    exact ya_vret rfl rfl rfl rfl rfl (Nat.le_refl _) dX12_needs_13
  · replace h := ya_itet h c
    refine ya_aload_n 0 rfl dX12_needs_8 ?_
    refine ya_iconst 1 (by decide) dX12_needs_9 ?_
    obtain ⟨d10, e10, h⟩ := ya_ob h
    refine ya_callVv (S := []) (c_X12_errs hG e10) m_X12_errs ⟨rfl, rfl⟩ ml_X12_174 rfl ⟨Nat.le_of_ble_eq_true rfl, Nat.le_of_ble_eq_true rfl⟩ (Nat.le_of_ble_eq_true rfl) (hG.lt0 83 (by decide)) (hG.o0 83 rfl) (by decide) rfl rfl ⟨Nat.le_refl _, Nat.le_refl _⟩ dX12_needs_10 rfl ?_
    cases h
    exact ya_vret rfl rfl rfl rfl rfl (Nat.le_refl _) dX12_needs_13
set_option maxRecDepth 20000 in
theorem c_X12_number {X : ya_X} {G : ya_G} {v1 : Int32} {v2 : Int32} {d : ya_D} {rr : (Int32 × ya_D)} (hG : ya_Bk ya_sh ya_ln G 0) (h : f_X12_number v1 v2 d = some rr) : ya_Ct X yX12_number Y_X12_number [.ref (X.2.1 + 83), .int v1, .int v2] G d (some (.int rr.1), G, rr.2) := by
  refine ya_ct (by decide +kernel) rfl rfl (Nat.le_of_ble_eq_true rfl) ?_
  unfold f_X12_number at h
  show ya_E X Y_X12_number (ya_M X (some (.int rr.1), G, rr.2) 0 0) 0 [(0, .ref (X.2.1 + 83)), (1, .int v1), (2, .int v2)] [] G d 0 0
  refine ya_aload_n 0 rfl dX12_number_0 ?_
  obtain ⟨x1, e1, h⟩ := ya_ob h
  refine ya_callVi (S := []) (c_X12_good hG e1) m_X12_good ⟨rfl, rfl⟩ ml_X12_150 rfl ⟨Nat.le_of_ble_eq_true rfl, Nat.le_of_ble_eq_true rfl⟩ (Nat.le_of_ble_eq_true rfl) (hG.lt0 83 (by decide)) (hG.o0 83 rfl) (by decide) rfl rfl ⟨Nat.le_refl _, Nat.le_refl _⟩ dX12_number_1 rfl ?_
  refine ya_j1_s h (fun d_20 => ya_E X Y_X12_number (ya_M X (some (.int rr.1), G, rr.2) 0 0) 20 [(0, .ref (X.2.1 + 83)), (1, .int v1), (2, .int v2)] [] G d_20 0 0) (fun d_20 h => ?_) (fun k20 hk20 h => ?_)
  · refine ya_aload_n 0 rfl dX12_number_20 ?_
    obtain ⟨x21, e21, h⟩ := ya_ob h
    refine ya_callVi (S := []) (c_X12_good hG e21) m_X12_good ⟨rfl, rfl⟩ ml_X12_150 rfl ⟨Nat.le_of_ble_eq_true rfl, Nat.le_of_ble_eq_true rfl⟩ (Nat.le_of_ble_eq_true rfl) (hG.lt0 83 (by decide)) (hG.o0 83 rfl) (by decide) rfl rfl ⟨Nat.le_refl _, Nat.le_refl _⟩ dX12_number_21 rfl ?_
    refine ya_j1_s h (fun d_47 => ya_E X Y_X12_number (ya_M X (some (.int rr.1), G, rr.2) 0 0) 47 [(0, .ref (X.2.1 + 83))] [] G d_47 0 0) (fun d_47 h => ?_) (fun k47 hk47 h => ?_)
    · refine ya_aload_n 0 rfl dX12_number_47 ?_
      obtain ⟨x48, e48, h⟩ := ya_ob h
      refine ya_callVi (S := []) (c_X12_good hG e48) m_X12_good ⟨rfl, rfl⟩ ml_X12_150 rfl ⟨Nat.le_of_ble_eq_true rfl, Nat.le_of_ble_eq_true rfl⟩ (Nat.le_of_ble_eq_true rfl) (hG.lt0 83 (by decide)) (hG.o0 83 rfl) (by decide) rfl rfl ⟨Nat.le_refl _, Nat.le_refl _⟩ dX12_number_48 rfl ?_
      refine ya_ifne 56 (by decide) dX12_number_51 (fun c => ?_) (fun c => ?_)
      · replace h := ya_itef h c
        refine ya_aload_n 0 rfl dX12_number_56 ?_
        refine ya_getI fo_X12_138 (hG.o0 83 rfl) (hG.lt0 83 (by decide)) dX12_number_57 ?_
        refine ya_istore_n [(3, .int (d_47.1 83 11)), (0, .ref (X.2.1 + 83))] (by decide) rfl dX12_number_60 ?_
        refine ya_aload_n 1 rfl dX12_number_61 ?_
        obtain ⟨d62, e62, h⟩ := ya_ob h
        refine ya_callVv (S := []) (c_X12_advance hG e62) m_X12_advance ⟨rfl, rfl⟩ ml_X12_168 rfl ⟨Nat.le_of_ble_eq_true rfl, Nat.le_of_ble_eq_true rfl⟩ (Nat.le_of_ble_eq_true rfl) (hG.lt0 83 (by decide)) (hG.o0 83 rfl) (by decide) rfl rfl ⟨Nat.le_refl _, Nat.le_refl _⟩ dX12_number_62 rfl ?_
        refine ya_iload_n 0 rfl dX12_number_65 ?_
        cases h
        exact ya_iret rfl rfl rfl rfl rfl (Nat.le_refl _) dX12_number_66
      · replace h := ya_itet h c
        refine ya_iconst 0 (by decide) dX12_number_54 ?_
        cases h
        exact ya_iret rfl rfl rfl rfl rfl (Nat.le_refl _) dX12_number_55
    · refine ya_ifeq 47 (by decide) dX12_number_24 (fun c => ?_) (fun c => ?_)
      · replace h := ya_itet h c
        refine ya_sub [(0, .ref (X.2.1 + 83))] [0] rfl ?_
        exact hk47 _ h
      · replace h := ya_itef h c
        refine ya_aload_n 0 rfl dX12_number_27 ?_
        refine ya_getI fo_X12_138 (hG.o0 83 rfl) (hG.lt0 83 (by decide)) dX12_number_28 ?_
        refine ya_i2l dX12_number_31 ?_
        refine ya_iload_n 1 rfl dX12_number_32 ?_
        refine ya_i2l dX12_number_33 ?_
        refine ya_iload_n 2 rfl dX12_number_34 ?_
        refine ya_i2l dX12_number_35 ?_
        obtain ⟨x36, e36, h⟩ := ya_ob h
        refine ya_callSi (S := []) (c_X12_in hG e36) m_X12_in ⟨rfl, rfl⟩ ml_X12_94 rfl ⟨Nat.le_of_ble_eq_true rfl, Nat.le_of_ble_eq_true rfl⟩ (Nat.le_of_ble_eq_true rfl) ⟨Nat.le_refl _, Nat.le_refl _⟩ dX12_number_36 rfl ?_
        refine ya_ifne 47 (by decide) dX12_number_39 (fun c => ?_) (fun c => ?_)
        · replace h := ya_itef h c
          refine ya_sub [(0, .ref (X.2.1 + 83))] [0] rfl ?_
          exact hk47 _ h
        · replace h := ya_itet h c
          refine ya_aload_n 0 rfl dX12_number_42 ?_
          refine ya_iconst 2 (by decide) dX12_number_43 ?_
          obtain ⟨d44, e44, h⟩ := ya_ob h
          refine ya_callVv (S := []) (c_X12_errs hG e44) m_X12_errs ⟨rfl, rfl⟩ ml_X12_174 rfl ⟨Nat.le_of_ble_eq_true rfl, Nat.le_of_ble_eq_true rfl⟩ (Nat.le_of_ble_eq_true rfl) (hG.lt0 83 (by decide)) (hG.o0 83 rfl) (by decide) rfl rfl ⟨Nat.le_refl _, Nat.le_refl _⟩ dX12_number_44 rfl ?_
          refine ya_sub [(0, .ref (X.2.1 + 83))] [0] rfl ?_
          exact hk47 _ h
  · refine ya_ifeq 20 (by decide) dX12_number_4 (fun c => ?_) (fun c => ?_)
    · replace h := ya_itet h c
      exact hk20 _ h
    · replace h := ya_itef h c
      refine ya_aload_n 0 rfl dX12_number_7 ?_
      refine ya_getI fo_X12_127 (hG.o0 83 rfl) (hG.lt0 83 (by decide)) dX12_number_8 ?_
      refine ya_iconst 2 (by decide) dX12_number_11 ?_
      refine ya_icmp_eq 20 (by decide) dX12_number_12 (fun c => ?_) (fun c => ?_)
      · replace h := ya_itet h c
        exact hk20 _ h
      · replace h := ya_itef h c
        refine ya_aload_n 0 rfl dX12_number_15 ?_
        refine ya_iconst 1 (by decide) dX12_number_16 ?_
        obtain ⟨d17, e17, h⟩ := ya_ob h
        refine ya_callVv (S := []) (c_X12_errs hG e17) m_X12_errs ⟨rfl, rfl⟩ ml_X12_174 rfl ⟨Nat.le_of_ble_eq_true rfl, Nat.le_of_ble_eq_true rfl⟩ (Nat.le_of_ble_eq_true rfl) (hG.lt0 83 (by decide)) (hG.o0 83 rfl) (by decide) rfl rfl ⟨Nat.le_refl _, Nat.le_refl _⟩ dX12_number_17 rfl ?_
        exact hk20 _ h
set_option maxRecDepth 20000 in
theorem c_X12_told {X : ya_X} {G : ya_G} {s1 : Nat} {v2 : Int32} {v3 : Int32} {d : ya_D} {rr : (Int32 × ya_D)} (hG : ya_Bk ya_sh ya_ln G 0) (h : f_X12_told s1 v2 v3 d = some rr) : ya_Ct X yX12_told Y_X12_told [.ref (X.2.1 + 83), .ref (X.2.2.2.2.2.2.1 s1), .int v2, .int v3] G d (some (.int rr.1), G, rr.2) := by
  refine ya_ct (by decide +kernel) rfl rfl (Nat.le_of_ble_eq_true rfl) ?_
  unfold f_X12_told at h
  show ya_E X Y_X12_told (ya_M X (some (.int rr.1), G, rr.2) 0 0) 0 [(0, .ref (X.2.1 + 83)), (1, .ref (X.2.2.2.2.2.2.1 s1)), (2, .int v2), (3, .int v3)] [] G d 0 0
  refine ya_aload_n 0 rfl dX12_told_0 ?_
  refine ya_aload_n 1 rfl dX12_told_1 ?_
  obtain ⟨d2, e2, h⟩ := ya_ob h
  refine ya_callVv (S := []) (c_X12_needs hG e2) m_X12_needs ⟨rfl, rfl⟩ ml_X12_178 rfl ⟨Nat.le_of_ble_eq_true rfl, Nat.le_of_ble_eq_true rfl⟩ (Nat.le_of_ble_eq_true rfl) (hG.lt0 83 (by decide)) (hG.o0 83 rfl) (by decide) rfl rfl ⟨Nat.le_refl _, Nat.le_refl _⟩ dX12_told_2 rfl ?_
  refine ya_aload_n 0 rfl dX12_told_5 ?_
  refine ya_iload_n 2 rfl dX12_told_6 ?_
  refine ya_iload_n 3 rfl dX12_told_7 ?_
  obtain ⟨x8, d8, e8, h⟩ := ya_ob2 h
  refine ya_callVi (S := []) (c_X12_number hG e8) m_X12_number ⟨rfl, rfl⟩ ml_X12_182 rfl ⟨Nat.le_of_ble_eq_true rfl, Nat.le_of_ble_eq_true rfl⟩ (Nat.le_of_ble_eq_true rfl) (hG.lt0 83 (by decide)) (hG.o0 83 rfl) (by decide) rfl rfl ⟨Nat.le_refl _, Nat.le_refl _⟩ dX12_told_8 rfl ?_
  cases h
  exact ya_iret rfl rfl rfl rfl rfl (Nat.le_refl _) dX12_told_11
set_option maxRecDepth 20000 in
theorem c_X12_fault {X : ya_X} {G : ya_G} {v1 : Int32} {d : ya_D} {rr : Int32} (hG : ya_Bk ya_sh ya_ln G 0) (h : f_X12_fault v1 d = some rr) : ya_Ct X yX12_fault Y_X12_fault [.ref (X.2.1 + 83), .int v1] G d (some (.int rr), G, d) := by
  refine ya_ct (by decide +kernel) rfl rfl (Nat.le_of_ble_eq_true rfl) ?_
  unfold f_X12_fault at h
  show ya_E X Y_X12_fault (ya_M X (some (.int rr), G, d) 0 0) 0 [(0, .ref (X.2.1 + 83)), (1, .int v1)] [] G d 0 0
  refine ya_iload_n 1 rfl dX12_fault_0 ?_
  refine ya_ifne 11 (by decide) dX12_fault_1 (fun c => ?_) (fun c => ?_)
  · replace h := ya_itef h c
    refine ya_iload_n 1 rfl dX12_fault_11 ?_
    refine ya_iconst 1 (by decide) dX12_fault_12 ?_
    refine ya_icmp_ne 23 (by decide) dX12_fault_13 (fun c => ?_) (fun c => ?_)
    · replace h := ya_itef h c
      refine ya_iconst (-1) (by decide) dX12_fault_23 ?_
      cases h
      exact ya_iret rfl rfl rfl rfl rfl (Nat.le_refl _) dX12_fault_24
    · replace h := ya_itet h c
      refine ya_aload_n 0 rfl dX12_fault_16 ?_
      refine ya_getI fo_X12_27 (hG.o0 83 rfl) (hG.lt0 83 (by decide)) dX12_fault_17 ?_
      refine ya_goto 24 (by decide) dX12_fault_20 ?_
      cases h
      exact ya_iret rfl rfl rfl rfl rfl (Nat.le_refl _) dX12_fault_24
  · replace h := ya_itet h c
    refine ya_aload_n 0 rfl dX12_fault_4 ?_
    refine ya_getI fo_X12_147 (hG.o0 83 rfl) (hG.lt0 83 (by decide)) dX12_fault_5 ?_
    refine ya_goto 24 (by decide) dX12_fault_8 ?_
    cases h
    exact ya_iret rfl rfl rfl rfl rfl (Nat.le_refl _) dX12_fault_24
set_option maxRecDepth 20000 in
theorem c_X12_freshThing {X : ya_X} {G : ya_G} {d : ya_D} {rr : (Int32 × ya_D)} (hG : ya_Bk ya_sh ya_ln G 0) (h : f_X12_freshThing d = some rr) : ya_Ct X yX12_freshThing Y_X12_freshThing [.ref (X.2.1 + 83)] G d (some (.int rr.1), G, rr.2) := by
  refine ya_ct (by decide +kernel) rfl rfl (Nat.le_of_ble_eq_true rfl) ?_
  unfold f_X12_freshThing at h
  show ya_E X Y_X12_freshThing (ya_M X (some (.int rr.1), G, rr.2) 0 0) 0 [(0, .ref (X.2.1 + 83))] [] G d 0 0
  refine ya_aload_n 0 rfl dX12_freshThing_0 ?_
  refine ya_iconst 0 (by decide) dX12_freshThing_1 ?_
  refine ya_aload_n 0 rfl dX12_freshThing_2 ?_
  refine ya_getR fo_X12_31 (hG.o0 83 rfl) (hG.lt0 83 (by decide)) (hG.l0 87 rfl) dX12_freshThing_3 ?_
  refine ya_iconst 1 (by decide) dX12_freshThing_6 ?_
  refine ya_iald (hG.s0 89 rfl) (hG.lt0 89 (by decide)) dX12_freshThing_7 h (fun x7 h => ?_)
  refine ya_iconst 1 (by decide) dX12_freshThing_8 ?_
  refine ya_isub dX12_freshThing_9 ?_
  obtain ⟨x10, d10, e10, h⟩ := ya_ob2 h
  refine ya_callVi (S := []) (c_X12_number hG e10) m_X12_number ⟨rfl, rfl⟩ ml_X12_182 rfl ⟨Nat.le_of_ble_eq_true rfl, Nat.le_of_ble_eq_true rfl⟩ (Nat.le_of_ble_eq_true rfl) (hG.lt0 83 (by decide)) (hG.o0 83 rfl) (by decide) rfl rfl ⟨Nat.le_refl _, Nat.le_refl _⟩ dX12_freshThing_10 rfl ?_
  cases h
  exact ya_iret rfl rfl rfl rfl rfl (Nat.le_refl _) dX12_freshThing_13
set_option maxRecDepth 20000 in
theorem w_X12_readThing_L37 {X : ya_X} {G : ya_G} {v1 : Int32} {v2 : Int32} {rr : ya_D} {e92 : ya_D → Option ya_D} (hG : ya_Bk ya_sh ya_ln G 0) (he92 : ∀ (d : ya_D), e92 d = some rr → ya_E X Y_X12_readThing (ya_M X (none, G, rr) 0 0) 92 [(0, .ref (X.2.1 + 83))] [] G d 0 0) : ∀ (n : Nat) (v3 : Int32) (d : ya_D), f_X12_readThing_L37 v1 v2 e92 n v3 d = some rr → ya_E X Y_X12_readThing (ya_M X (none, G, rr) 0 0) 37 [(0, .ref (X.2.1 + 83)), (1, .int v1), (2, .int v2), (3, .int v3)] [] G d 0 0 := by
  intro n
  induction n with
  | zero => intro v3 d h; cases h
  | succ n ih =>
    intro v3 d h
    rw [f_X12_readThing_L37] at h
    refine ya_iload_n 3 rfl dX12_readThing_37 ?_
    refine ya_bipush 20 (by decide) dX12_readThing_38 ?_
    refine ya_icmp_ge 92 (by decide) dX12_readThing_40 (fun c => ?_) (fun c => ?_)
    · replace h := ya_itet h c
      refine ya_sub [(0, .ref (X.2.1 + 83))] [0] rfl ?_
      exact he92 _ h
    · replace h := ya_itef h c
      refine ya_aload_n 0 rfl dX12_readThing_43 ?_
      refine ya_getR fo_X12_31 (hG.o0 83 rfl) (hG.lt0 83 (by decide)) (hG.l0 87 rfl) dX12_readThing_44 ?_
      refine ya_bipush 11 (by decide) dX12_readThing_47 ?_
      refine ya_iload_n 1 rfl dX12_readThing_49 ?_
      refine ya_iload_n 3 rfl dX12_readThing_50 ?_
      obtain ⟨x51, e51, h⟩ := ya_ob h
      refine ya_callSi (S := [.int 11, .ref (X.2.1 + 89)]) (c_X12_at hG e51) m_X12_at ⟨rfl, rfl⟩ ml_X12_105 rfl ⟨Nat.le_of_ble_eq_true rfl, Nat.le_of_ble_eq_true rfl⟩ (Nat.le_of_ble_eq_true rfl) ⟨Nat.le_refl _, Nat.le_refl _⟩ dX12_readThing_51 rfl ?_
      refine ya_iadd dX12_readThing_54 ?_
      refine ya_iload_n 2 rfl dX12_readThing_55 ?_
      refine ya_iast (hG.s0 89 rfl) (hG.lt0 89 (by decide)) dX12_readThing_56 h (fun d56 h => ?_)
      refine ya_aload_n 0 rfl dX12_readThing_57 ?_
      refine ya_getR fo_X12_31 (hG.o0 83 rfl) (hG.lt0 83 (by decide)) (hG.l0 87 rfl) dX12_readThing_58 ?_
      refine ya_bipush 111 (by decide) dX12_readThing_61 ?_
      refine ya_iload_n 1 rfl dX12_readThing_63 ?_
      refine ya_iload_n 3 rfl dX12_readThing_64 ?_
      obtain ⟨x65, e65, h⟩ := ya_ob h
      refine ya_callSi (S := [.int 111, .ref (X.2.1 + 89)]) (c_X12_at hG e65) m_X12_at ⟨rfl, rfl⟩ ml_X12_105 rfl ⟨Nat.le_of_ble_eq_true rfl, Nat.le_of_ble_eq_true rfl⟩ (Nat.le_of_ble_eq_true rfl) ⟨Nat.le_refl _, Nat.le_refl _⟩ dX12_readThing_65 rfl ?_
      refine ya_iadd dX12_readThing_68 ?_
      refine ya_iload_n 2 rfl dX12_readThing_69 ?_
      refine ya_iast (hG.s0 89 rfl) (hG.lt0 89 (by decide)) dX12_readThing_70 h (fun d70 h => ?_)
      refine ya_aload_n 0 rfl dX12_readThing_71 ?_
      refine ya_getR fo_X12_31 (hG.o0 83 rfl) (hG.lt0 83 (by decide)) (hG.l0 87 rfl) dX12_readThing_72 ?_
      refine ya_sipush 211 (by decide) dX12_readThing_75 ?_
      refine ya_iload_n 1 rfl dX12_readThing_78 ?_
      refine ya_iload_n 3 rfl dX12_readThing_79 ?_
      obtain ⟨x80, e80, h⟩ := ya_ob h
      refine ya_callSi (S := [.int 211, .ref (X.2.1 + 89)]) (c_X12_at hG e80) m_X12_at ⟨rfl, rfl⟩ ml_X12_105 rfl ⟨Nat.le_of_ble_eq_true rfl, Nat.le_of_ble_eq_true rfl⟩ (Nat.le_of_ble_eq_true rfl) ⟨Nat.le_refl _, Nat.le_refl _⟩ dX12_readThing_80 rfl ?_
      refine ya_iadd dX12_readThing_83 ?_
      refine ya_iconst (-1) (by decide) dX12_readThing_84 ?_
      refine ya_iast (hG.s0 89 rfl) (hG.lt0 89 (by decide)) dX12_readThing_85 h (fun d85 h => ?_)
      refine ya_iinc (v3 + 1) rfl 3 rfl [(3, .int (v3 + 1)), (0, .ref (X.2.1 + 83)), (1, .int v1), (2, .int v2)] (by decide) rfl dX12_readThing_86 ?_
      refine ya_goto 37 (by decide) dX12_readThing_89 ?_
      refine ya_sub [(0, .ref (X.2.1 + 83)), (1, .int v1), (2, .int v2), (3, .int (v3 + 1))] [1, 2, 3, 0] rfl ?_
      exact ih _ _ h
set_option maxRecDepth 20000 in
theorem c_X12_readThing {X : ya_X} {G : ya_G} {d : ya_D} {rr : ya_D} (hG : ya_Bk ya_sh ya_ln G 0) (h : f_X12_readThing d = some rr) : ya_Ct X yX12_readThing Y_X12_readThing [.ref (X.2.1 + 83)] G d (none, G, rr) := by
  refine ya_ct (by decide +kernel) rfl rfl (Nat.le_of_ble_eq_true rfl) ?_
  unfold f_X12_readThing at h
  show ya_E X Y_X12_readThing (ya_M X (none, G, rr) 0 0) 0 [(0, .ref (X.2.1 + 83))] [] G d 0 0
  refine ya_aload_n 0 rfl dX12_readThing_0 ?_
  refine ya_getR fo_X12_31 (hG.o0 83 rfl) (hG.lt0 83 (by decide)) (hG.l0 87 rfl) dX12_readThing_1 ?_
  refine ya_iconst 1 (by decide) dX12_readThing_4 ?_
  refine ya_iald (hG.s0 89 rfl) (hG.lt0 89 (by decide)) dX12_readThing_5 h (fun x5 h => ?_)
  refine ya_istore_n [(1, .int x5), (0, .ref (X.2.1 + 83))] (by decide) rfl dX12_readThing_6 ?_
  refine ya_aload_n 1 rfl dX12_readThing_7 ?_
  refine ya_ldcS 17 rfl dX12_readThing_8 ?_
  refine ya_iconst 0 (by decide) dX12_readThing_10 ?_
  refine ya_bipush 99 (by decide) dX12_readThing_11 ?_
  obtain ⟨x13, d13, e13, h⟩ := ya_ob2 h
  refine ya_callVi (S := []) (c_X12_told hG e13) m_X12_told ⟨rfl, rfl⟩ ml_X12_187 rfl ⟨Nat.le_of_ble_eq_true rfl, Nat.le_of_ble_eq_true rfl⟩ (Nat.le_of_ble_eq_true rfl) (hG.lt0 83 (by decide)) (hG.o0 83 rfl) (by decide) rfl rfl ⟨Nat.le_refl _, Nat.le_refl _⟩ dX12_readThing_13 rfl ?_
  refine ya_istore_n [(2, .int x13), (1, .int x5), (0, .ref (X.2.1 + 83))] (by decide) rfl dX12_readThing_16 ?_
  refine ya_aload_n 2 rfl dX12_readThing_17 ?_
  refine ya_getR fo_X12_31 (hG.o0 83 rfl) (hG.lt0 83 (by decide)) (hG.l0 87 rfl) dX12_readThing_18 ?_
  refine ya_bipush 6 (by decide) dX12_readThing_21 ?_
  refine ya_iload_n 1 rfl dX12_readThing_23 ?_
  refine ya_iadd dX12_readThing_24 ?_
  refine ya_aload_n 2 rfl dX12_readThing_25 ?_
  refine ya_ldcS 18 rfl dX12_readThing_26 ?_
  refine ya_iconst 0 (by decide) dX12_readThing_28 ?_
  refine ya_bipush 30 (by decide) dX12_readThing_29 ?_
  obtain ⟨x31, d31, e31, h⟩ := ya_ob2 h
  refine ya_callVi (S := [.int ((6 : Int32) + x5), .ref (X.2.1 + 89)]) (c_X12_told hG e31) m_X12_told ⟨rfl, rfl⟩ ml_X12_187 rfl ⟨Nat.le_of_ble_eq_true rfl, Nat.le_of_ble_eq_true rfl⟩ (Nat.le_of_ble_eq_true rfl) (hG.lt0 83 (by decide)) (hG.o0 83 rfl) (by decide) rfl rfl ⟨Nat.le_refl _, Nat.le_refl _⟩ dX12_readThing_31 rfl ?_
  refine ya_iast (hG.s0 89 rfl) (hG.lt0 89 (by decide)) dX12_readThing_34 h (fun d34 h => ?_)
  refine ya_iconst 0 (by decide) dX12_readThing_35 ?_
  refine ya_istore_n [(3, .int 0), (2, .int x13), (1, .int x5), (0, .ref (X.2.1 + 83))] (by decide) rfl dX12_readThing_36 ?_
  refine ya_sub [(0, .ref (X.2.1 + 83)), (1, .int x5), (2, .int x13), (3, .int 0)] [3, 2, 1, 0] rfl ?_
  refine w_X12_readThing_L37 hG (fun d_92 h => ?_) ya_F _ _ h
  refine ya_aload_n 0 rfl dX12_readThing_92 ?_
  refine ya_getR fo_X12_31 (hG.o0 83 rfl) (hG.lt0 83 (by decide)) (hG.l0 87 rfl) dX12_readThing_93 ?_
  refine ya_iconst 1 (by decide) dX12_readThing_96 ?_
  refine ya_dup2 rfl rfl dX12_readThing_97 ?_
  refine ya_iald (hG.s0 89 rfl) (hG.lt0 89 (by decide)) dX12_readThing_98 h (fun x98 h => ?_)
  refine ya_iconst 1 (by decide) dX12_readThing_99 ?_
  refine ya_iadd dX12_readThing_100 ?_
  refine ya_iast (hG.s0 89 rfl) (hG.lt0 89 (by decide)) dX12_readThing_101 h (fun d101 h => ?_)
  cases h
  exact ya_vret rfl rfl rfl rfl rfl (Nat.le_refl _) dX12_readThing_102
set_option maxRecDepth 20000 in
theorem c_X12_readOn {X : ya_X} {G : ya_G} {v1 : Int32} {v2 : Int32} {d : ya_D} {rr : ya_D} (hG : ya_Bk ya_sh ya_ln G 0) (h : f_X12_readOn v1 v2 d = some rr) : ya_Ct X yX12_readOn Y_X12_readOn [.ref (X.2.1 + 83), .int v1, .int v2] G d (none, G, rr) := by
  refine ya_ct (by decide +kernel) rfl rfl (Nat.le_of_ble_eq_true rfl) ?_
  unfold f_X12_readOn at h
  show ya_E X Y_X12_readOn (ya_M X (none, G, rr) 0 0) 0 [(0, .ref (X.2.1 + 83)), (1, .int v1), (2, .int v2)] [] G d 0 0
  refine ya_aload_n 0 rfl dX12_readOn_0 ?_
  refine ya_iconst 0 (by decide) dX12_readOn_1 ?_
  refine ya_iload_n 2 rfl dX12_readOn_2 ?_
  refine ya_iconst 1 (by decide) dX12_readOn_3 ?_
  refine ya_isub dX12_readOn_4 ?_
  obtain ⟨x5, d5, e5, h⟩ := ya_ob2 h
  refine ya_callVi (S := []) (c_X12_number hG e5) m_X12_number ⟨rfl, rfl⟩ ml_X12_182 rfl ⟨Nat.le_of_ble_eq_true rfl, Nat.le_of_ble_eq_true rfl⟩ (Nat.le_of_ble_eq_true rfl) (hG.lt0 83 (by decide)) (hG.o0 83 rfl) (by decide) rfl rfl ⟨Nat.le_refl _, Nat.le_refl _⟩ dX12_readOn_5 rfl ?_
  refine ya_istore_n [(3, .int x5), (0, .ref (X.2.1 + 83)), (1, .int v1), (2, .int v2)] (by decide) rfl dX12_readOn_8 ?_
  refine ya_aload_n 1 rfl dX12_readOn_9 ?_
  refine ya_ldcS 19 rfl dX12_readOn_10 ?_
  refine ya_iconst 0 (by decide) dX12_readOn_12 ?_
  refine ya_aload_n 1 rfl dX12_readOn_13 ?_
  refine ya_getR fo_X12_31 (hG.o0 83 rfl) (hG.lt0 83 (by decide)) (hG.l0 87 rfl) dX12_readOn_14 ?_
  refine ya_iconst 0 (by decide) dX12_readOn_17 ?_
  refine ya_iald (hG.s0 89 rfl) (hG.lt0 89 (by decide)) dX12_readOn_18 h (fun x18 h => ?_)
  refine ya_iconst 1 (by decide) dX12_readOn_19 ?_
  refine ya_isub dX12_readOn_20 ?_
  obtain ⟨x21, d21, e21, h⟩ := ya_ob2 h
  refine ya_callVi (S := []) (c_X12_told hG e21) m_X12_told ⟨rfl, rfl⟩ ml_X12_187 rfl ⟨Nat.le_of_ble_eq_true rfl, Nat.le_of_ble_eq_true rfl⟩ (Nat.le_of_ble_eq_true rfl) (hG.lt0 83 (by decide)) (hG.o0 83 rfl) (by decide) rfl rfl ⟨Nat.le_refl _, Nat.le_refl _⟩ dX12_readOn_21 rfl ?_
  refine ya_istore [(4, .int x21), (3, .int x5), (0, .ref (X.2.1 + 83)), (1, .int v1), (2, .int v2)] (by decide) rfl dX12_readOn_24 ?_
  refine ya_aload_n 2 rfl dX12_readOn_26 ?_
  refine ya_iconst 0 (by decide) dX12_readOn_27 ?_
  refine ya_bipush 99 (by decide) dX12_readOn_28 ?_
  obtain ⟨x30, d30, e30, h⟩ := ya_ob2 h
  refine ya_callVi (S := []) (c_X12_number hG e30) m_X12_number ⟨rfl, rfl⟩ ml_X12_182 rfl ⟨Nat.le_of_ble_eq_true rfl, Nat.le_of_ble_eq_true rfl⟩ (Nat.le_of_ble_eq_true rfl) (hG.lt0 83 (by decide)) (hG.o0 83 rfl) (by decide) rfl rfl ⟨Nat.le_refl _, Nat.le_refl _⟩ dX12_readOn_30 rfl ?_
  refine ya_istore [(5, .int x30), (4, .int x21), (3, .int x5), (0, .ref (X.2.1 + 83)), (1, .int v1), (2, .int v2)] (by decide) rfl dX12_readOn_33 ?_
  refine ya_aload_n 3 rfl dX12_readOn_35 ?_
  obtain ⟨x36, e36, h⟩ := ya_ob h
  refine ya_callVi (S := []) (c_X12_good hG e36) m_X12_good ⟨rfl, rfl⟩ ml_X12_150 rfl ⟨Nat.le_of_ble_eq_true rfl, Nat.le_of_ble_eq_true rfl⟩ (Nat.le_of_ble_eq_true rfl) (hG.lt0 83 (by decide)) (hG.o0 83 rfl) (by decide) rfl rfl ⟨Nat.le_refl _, Nat.le_refl _⟩ dX12_readOn_36 rfl ?_
  refine ya_ifeq 57 (by decide) dX12_readOn_39 (fun c => ?_) (fun c => ?_)
  · replace h := ya_itet h c
    cases h
    exact ya_vret rfl rfl rfl rfl rfl (Nat.le_refl _) dX12_readOn_57
  · replace h := ya_itef h c
    refine ya_aload_n 3 rfl dX12_readOn_42 ?_
    refine ya_getR fo_X12_31 (hG.o0 83 rfl) (hG.lt0 83 (by decide)) (hG.l0 87 rfl) dX12_readOn_43 ?_
    refine ya_iload_n 4 rfl dX12_readOn_46 ?_
    refine ya_iload_n 2 rfl dX12_readOn_47 ?_
    refine ya_iload 1 rfl dX12_readOn_48 ?_
    obtain ⟨x50, e50, h⟩ := ya_ob h
    refine ya_callSi (S := [.int v1, .ref (X.2.1 + 89)]) (c_X12_at hG e50) m_X12_at ⟨rfl, rfl⟩ ml_X12_105 rfl ⟨Nat.le_of_ble_eq_true rfl, Nat.le_of_ble_eq_true rfl⟩ (Nat.le_of_ble_eq_true rfl) ⟨Nat.le_refl _, Nat.le_refl _⟩ dX12_readOn_50 rfl ?_
    refine ya_iadd dX12_readOn_53 ?_
    refine ya_iload 0 rfl dX12_readOn_54 ?_
    refine ya_iast (hG.s0 89 rfl) (hG.lt0 89 (by decide)) dX12_readOn_56 h (fun d56 h => ?_)
    cases h
    exact ya_vret rfl rfl rfl rfl rfl (Nat.le_refl _) dX12_readOn_57
set_option maxRecDepth 20000 in
theorem c_X12_readSeller {X : ya_X} {G : ya_G} {d : ya_D} {rr : ya_D} (hG : ya_Bk ya_sh ya_ln G 0) (h : f_X12_readSeller d = some rr) : ya_Ct X yX12_readSeller Y_X12_readSeller [.ref (X.2.1 + 83)] G d (none, G, rr) := by
  refine ya_ct (by decide +kernel) rfl rfl (Nat.le_of_ble_eq_true rfl) ?_
  unfold f_X12_readSeller at h
  show ya_E X Y_X12_readSeller (ya_M X (none, G, rr) 0 0) 0 [(0, .ref (X.2.1 + 83))] [] G d 0 0
  refine ya_sipush 311 (by decide) dX12_readSeller_0 ?_
  refine ya_iconst 3 (by decide) dX12_readSeller_3 ?_
  refine ya_aload_n 0 rfl dX12_readSeller_4 ?_
  refine ya_getR fo_X12_31 (hG.o0 83 rfl) (hG.lt0 83 (by decide)) (hG.l0 87 rfl) dX12_readSeller_5 ?_
  refine ya_iconst 2 (by decide) dX12_readSeller_8 ?_
  refine ya_iald (hG.s0 89 rfl) (hG.lt0 89 (by decide)) dX12_readSeller_9 h (fun x9 h => ?_)
  refine ya_imul dX12_readSeller_10 ?_
  refine ya_iadd dX12_readSeller_11 ?_
  refine ya_istore_n [(1, .int ((311 : Int32) + ((3 : Int32) * x9))), (0, .ref (X.2.1 + 83))] (by decide) rfl dX12_readSeller_12 ?_
  refine ya_aload_n 1 rfl dX12_readSeller_13 ?_
  refine ya_getR fo_X12_31 (hG.o0 83 rfl) (hG.lt0 83 (by decide)) (hG.l0 87 rfl) dX12_readSeller_14 ?_
  refine ya_iload_n 0 rfl dX12_readSeller_17 ?_
  refine ya_aload_n 1 rfl dX12_readSeller_18 ?_
  obtain ⟨x19, d19, e19, h⟩ := ya_ob2 h
  refine ya_callVi (S := [.int ((311 : Int32) + ((3 : Int32) * x9)), .ref (X.2.1 + 89)]) (c_X12_freshThing hG e19) m_X12_freshThing ⟨rfl, rfl⟩ ml_X12_195 rfl ⟨Nat.le_of_ble_eq_true rfl, Nat.le_of_ble_eq_true rfl⟩ (Nat.le_of_ble_eq_true rfl) (hG.lt0 83 (by decide)) (hG.o0 83 rfl) (by decide) rfl rfl ⟨Nat.le_refl _, Nat.le_refl _⟩ dX12_readSeller_19 rfl ?_
  refine ya_iast (hG.s0 89 rfl) (hG.lt0 89 (by decide)) dX12_readSeller_22 h (fun d22 h => ?_)
  refine ya_aload_n 1 rfl dX12_readSeller_23 ?_
  refine ya_getR fo_X12_31 (hG.o0 83 rfl) (hG.lt0 83 (by decide)) (hG.l0 87 rfl) dX12_readSeller_24 ?_
  refine ya_iload_n 0 rfl dX12_readSeller_27 ?_
  refine ya_iconst 2 (by decide) dX12_readSeller_28 ?_
  refine ya_iadd dX12_readSeller_29 ?_
  refine ya_aload_n 1 rfl dX12_readSeller_30 ?_
  refine ya_ldcS 20 rfl dX12_readSeller_31 ?_
  refine ya_iconst 0 (by decide) dX12_readSeller_33 ?_
  refine ya_bipush 99 (by decide) dX12_readSeller_34 ?_
  obtain ⟨x36, d36, e36, h⟩ := ya_ob2 h
  refine ya_callVi (S := [.int (((311 : Int32) + ((3 : Int32) * x9)) + 2), .ref (X.2.1 + 89)]) (c_X12_told hG e36) m_X12_told ⟨rfl, rfl⟩ ml_X12_187 rfl ⟨Nat.le_of_ble_eq_true rfl, Nat.le_of_ble_eq_true rfl⟩ (Nat.le_of_ble_eq_true rfl) (hG.lt0 83 (by decide)) (hG.o0 83 rfl) (by decide) rfl rfl ⟨Nat.le_refl _, Nat.le_refl _⟩ dX12_readSeller_36 rfl ?_
  refine ya_iast (hG.s0 89 rfl) (hG.lt0 89 (by decide)) dX12_readSeller_39 h (fun d39 h => ?_)
  refine ya_aload_n 1 rfl dX12_readSeller_40 ?_
  refine ya_getR fo_X12_31 (hG.o0 83 rfl) (hG.lt0 83 (by decide)) (hG.l0 87 rfl) dX12_readSeller_41 ?_
  refine ya_iload_n 0 rfl dX12_readSeller_44 ?_
  refine ya_iconst 1 (by decide) dX12_readSeller_45 ?_
  refine ya_iadd dX12_readSeller_46 ?_
  refine ya_aload_n 1 rfl dX12_readSeller_47 ?_
  refine ya_ldcS 21 rfl dX12_readSeller_48 ?_
  refine ya_iconst 0 (by decide) dX12_readSeller_50 ?_
  refine ya_bipush 99 (by decide) dX12_readSeller_51 ?_
  obtain ⟨x53, d53, e53, h⟩ := ya_ob2 h
  refine ya_callVi (S := [.int (((311 : Int32) + ((3 : Int32) * x9)) + 1), .ref (X.2.1 + 89)]) (c_X12_told hG e53) m_X12_told ⟨rfl, rfl⟩ ml_X12_187 rfl ⟨Nat.le_of_ble_eq_true rfl, Nat.le_of_ble_eq_true rfl⟩ (Nat.le_of_ble_eq_true rfl) (hG.lt0 83 (by decide)) (hG.o0 83 rfl) (by decide) rfl rfl ⟨Nat.le_refl _, Nat.le_refl _⟩ dX12_readSeller_53 rfl ?_
  refine ya_iast (hG.s0 89 rfl) (hG.lt0 89 (by decide)) dX12_readSeller_56 h (fun d56 h => ?_)
  refine ya_aload_n 1 rfl dX12_readSeller_57 ?_
  refine ya_getR fo_X12_31 (hG.o0 83 rfl) (hG.lt0 83 (by decide)) (hG.l0 87 rfl) dX12_readSeller_58 ?_
  refine ya_iconst 2 (by decide) dX12_readSeller_61 ?_
  refine ya_dup2 rfl rfl dX12_readSeller_62 ?_
  refine ya_iald (hG.s0 89 rfl) (hG.lt0 89 (by decide)) dX12_readSeller_63 h (fun x63 h => ?_)
  refine ya_iconst 1 (by decide) dX12_readSeller_64 ?_
  refine ya_iadd dX12_readSeller_65 ?_
  refine ya_iast (hG.s0 89 rfl) (hG.lt0 89 (by decide)) dX12_readSeller_66 h (fun d66 h => ?_)
  cases h
  exact ya_vret rfl rfl rfl rfl rfl (Nat.le_refl _) dX12_readSeller_67
set_option maxRecDepth 20000 in
theorem c_X12_readBuyer {X : ya_X} {G : ya_G} {d : ya_D} {rr : ya_D} (hG : ya_Bk ya_sh ya_ln G 0) (h : f_X12_readBuyer d = some rr) : ya_Ct X yX12_readBuyer Y_X12_readBuyer [.ref (X.2.1 + 83)] G d (none, G, rr) := by
  refine ya_ct (by decide +kernel) rfl rfl (Nat.le_of_ble_eq_true rfl) ?_
  unfold f_X12_readBuyer at h
  show ya_E X Y_X12_readBuyer (ya_M X (none, G, rr) 0 0) 0 [(0, .ref (X.2.1 + 83))] [] G d 0 0
  refine ya_sipush 426 (by decide) dX12_readBuyer_0 ?_
  refine ya_bipush 6 (by decide) dX12_readBuyer_3 ?_
  refine ya_aload_n 0 rfl dX12_readBuyer_5 ?_
  refine ya_getR fo_X12_31 (hG.o0 83 rfl) (hG.lt0 83 (by decide)) (hG.l0 87 rfl) dX12_readBuyer_6 ?_
  refine ya_iconst 3 (by decide) dX12_readBuyer_9 ?_
  refine ya_iald (hG.s0 89 rfl) (hG.lt0 89 (by decide)) dX12_readBuyer_10 h (fun x10 h => ?_)
  refine ya_imul dX12_readBuyer_11 ?_
  refine ya_iadd dX12_readBuyer_12 ?_
  refine ya_istore_n [(1, .int ((426 : Int32) + ((6 : Int32) * x10))), (0, .ref (X.2.1 + 83))] (by decide) rfl dX12_readBuyer_13 ?_
  refine ya_aload_n 1 rfl dX12_readBuyer_14 ?_
  refine ya_getR fo_X12_31 (hG.o0 83 rfl) (hG.lt0 83 (by decide)) (hG.l0 87 rfl) dX12_readBuyer_15 ?_
  refine ya_iload_n 0 rfl dX12_readBuyer_18 ?_
  refine ya_aload_n 1 rfl dX12_readBuyer_19 ?_
  obtain ⟨x20, d20, e20, h⟩ := ya_ob2 h
  refine ya_callVi (S := [.int ((426 : Int32) + ((6 : Int32) * x10)), .ref (X.2.1 + 89)]) (c_X12_freshThing hG e20) m_X12_freshThing ⟨rfl, rfl⟩ ml_X12_195 rfl ⟨Nat.le_of_ble_eq_true rfl, Nat.le_of_ble_eq_true rfl⟩ (Nat.le_of_ble_eq_true rfl) (hG.lt0 83 (by decide)) (hG.o0 83 rfl) (by decide) rfl rfl ⟨Nat.le_refl _, Nat.le_refl _⟩ dX12_readBuyer_20 rfl ?_
  refine ya_iast (hG.s0 89 rfl) (hG.lt0 89 (by decide)) dX12_readBuyer_23 h (fun d23 h => ?_)
  refine ya_aload_n 1 rfl dX12_readBuyer_24 ?_
  refine ya_getR fo_X12_31 (hG.o0 83 rfl) (hG.lt0 83 (by decide)) (hG.l0 87 rfl) dX12_readBuyer_25 ?_
  refine ya_iload_n 0 rfl dX12_readBuyer_28 ?_
  refine ya_iconst 1 (by decide) dX12_readBuyer_29 ?_
  refine ya_iadd dX12_readBuyer_30 ?_
  refine ya_aload_n 1 rfl dX12_readBuyer_31 ?_
  refine ya_ldcS 22 rfl dX12_readBuyer_32 ?_
  refine ya_iconst 1 (by decide) dX12_readBuyer_34 ?_
  refine ya_bipush 9 (by decide) dX12_readBuyer_35 ?_
  obtain ⟨x37, d37, e37, h⟩ := ya_ob2 h
  refine ya_callVi (S := [.int (((426 : Int32) + ((6 : Int32) * x10)) + 1), .ref (X.2.1 + 89)]) (c_X12_told hG e37) m_X12_told ⟨rfl, rfl⟩ ml_X12_187 rfl ⟨Nat.le_of_ble_eq_true rfl, Nat.le_of_ble_eq_true rfl⟩ (Nat.le_of_ble_eq_true rfl) (hG.lt0 83 (by decide)) (hG.o0 83 rfl) (by decide) rfl rfl ⟨Nat.le_refl _, Nat.le_refl _⟩ dX12_readBuyer_37 rfl ?_
  refine ya_iast (hG.s0 89 rfl) (hG.lt0 89 (by decide)) dX12_readBuyer_40 h (fun d40 h => ?_)
  refine ya_aload_n 1 rfl dX12_readBuyer_41 ?_
  refine ya_getR fo_X12_31 (hG.o0 83 rfl) (hG.lt0 83 (by decide)) (hG.l0 87 rfl) dX12_readBuyer_42 ?_
  refine ya_iload_n 0 rfl dX12_readBuyer_45 ?_
  refine ya_iconst 2 (by decide) dX12_readBuyer_46 ?_
  refine ya_iadd dX12_readBuyer_47 ?_
  refine ya_aload_n 1 rfl dX12_readBuyer_48 ?_
  refine ya_ldcS 23 rfl dX12_readBuyer_49 ?_
  refine ya_iconst 0 (by decide) dX12_readBuyer_51 ?_
  refine ya_bipush 99 (by decide) dX12_readBuyer_52 ?_
  obtain ⟨x54, d54, e54, h⟩ := ya_ob2 h
  refine ya_callVi (S := [.int (((426 : Int32) + ((6 : Int32) * x10)) + 2), .ref (X.2.1 + 89)]) (c_X12_told hG e54) m_X12_told ⟨rfl, rfl⟩ ml_X12_187 rfl ⟨Nat.le_of_ble_eq_true rfl, Nat.le_of_ble_eq_true rfl⟩ (Nat.le_of_ble_eq_true rfl) (hG.lt0 83 (by decide)) (hG.o0 83 rfl) (by decide) rfl rfl ⟨Nat.le_refl _, Nat.le_refl _⟩ dX12_readBuyer_54 rfl ?_
  refine ya_iast (hG.s0 89 rfl) (hG.lt0 89 (by decide)) dX12_readBuyer_57 h (fun d57 h => ?_)
  refine ya_aload_n 1 rfl dX12_readBuyer_58 ?_
  refine ya_getR fo_X12_31 (hG.o0 83 rfl) (hG.lt0 83 (by decide)) (hG.l0 87 rfl) dX12_readBuyer_59 ?_
  refine ya_iload_n 0 rfl dX12_readBuyer_62 ?_
  refine ya_iconst 3 (by decide) dX12_readBuyer_63 ?_
  refine ya_iadd dX12_readBuyer_64 ?_
  refine ya_aload_n 1 rfl dX12_readBuyer_65 ?_
  refine ya_ldcS 24 rfl dX12_readBuyer_66 ?_
  refine ya_iconst 0 (by decide) dX12_readBuyer_68 ?_
  refine ya_aload_n 1 rfl dX12_readBuyer_69 ?_
  refine ya_getR fo_X12_31 (hG.o0 83 rfl) (hG.lt0 83 (by decide)) (hG.l0 87 rfl) dX12_readBuyer_70 ?_
  refine ya_iconst 0 (by decide) dX12_readBuyer_73 ?_
  refine ya_iald (hG.s0 89 rfl) (hG.lt0 89 (by decide)) dX12_readBuyer_74 h (fun x74 h => ?_)
  refine ya_iconst 1 (by decide) dX12_readBuyer_75 ?_
  refine ya_isub dX12_readBuyer_76 ?_
  obtain ⟨x77, d77, e77, h⟩ := ya_ob2 h
  refine ya_callVi (S := [.int (((426 : Int32) + ((6 : Int32) * x10)) + 3), .ref (X.2.1 + 89)]) (c_X12_told hG e77) m_X12_told ⟨rfl, rfl⟩ ml_X12_187 rfl ⟨Nat.le_of_ble_eq_true rfl, Nat.le_of_ble_eq_true rfl⟩ (Nat.le_of_ble_eq_true rfl) (hG.lt0 83 (by decide)) (hG.o0 83 rfl) (by decide) rfl rfl ⟨Nat.le_refl _, Nat.le_refl _⟩ dX12_readBuyer_77 rfl ?_
  refine ya_iast (hG.s0 89 rfl) (hG.lt0 89 (by decide)) dX12_readBuyer_80 h (fun d80 h => ?_)
  refine ya_aload_n 1 rfl dX12_readBuyer_81 ?_
  refine ya_getR fo_X12_31 (hG.o0 83 rfl) (hG.lt0 83 (by decide)) (hG.l0 87 rfl) dX12_readBuyer_82 ?_
  refine ya_iload_n 0 rfl dX12_readBuyer_85 ?_
  refine ya_iconst 4 (by decide) dX12_readBuyer_86 ?_
  refine ya_iadd dX12_readBuyer_87 ?_
  refine ya_aload_n 1 rfl dX12_readBuyer_88 ?_
  refine ya_ldcS 25 rfl dX12_readBuyer_89 ?_
  refine ya_aload_n 1 rfl dX12_readBuyer_91 ?_
  refine ya_getR fo_X12_31 (hG.o0 83 rfl) (hG.lt0 83 (by decide)) (hG.l0 87 rfl) dX12_readBuyer_92 ?_
  refine ya_iload_n 0 rfl dX12_readBuyer_95 ?_
  refine ya_iconst 3 (by decide) dX12_readBuyer_96 ?_
  refine ya_iadd dX12_readBuyer_97 ?_
  refine ya_iald (hG.s0 89 rfl) (hG.lt0 89 (by decide)) dX12_readBuyer_98 h (fun x98 h => ?_)
  refine ya_aload_n 1 rfl dX12_readBuyer_99 ?_
  refine ya_getR fo_X12_31 (hG.o0 83 rfl) (hG.lt0 83 (by decide)) (hG.l0 87 rfl) dX12_readBuyer_100 ?_
  refine ya_iconst 0 (by decide) dX12_readBuyer_103 ?_
  refine ya_iald (hG.s0 89 rfl) (hG.lt0 89 (by decide)) dX12_readBuyer_104 h (fun x104 h => ?_)
  refine ya_iconst 1 (by decide) dX12_readBuyer_105 ?_
  refine ya_isub dX12_readBuyer_106 ?_
  obtain ⟨x107, d107, e107, h⟩ := ya_ob2 h
  refine ya_callVi (S := [.int (((426 : Int32) + ((6 : Int32) * x10)) + 4), .ref (X.2.1 + 89)]) (c_X12_told hG e107) m_X12_told ⟨rfl, rfl⟩ ml_X12_187 rfl ⟨Nat.le_of_ble_eq_true rfl, Nat.le_of_ble_eq_true rfl⟩ (Nat.le_of_ble_eq_true rfl) (hG.lt0 83 (by decide)) (hG.o0 83 rfl) (by decide) rfl rfl ⟨Nat.le_refl _, Nat.le_refl _⟩ dX12_readBuyer_107 rfl ?_
  refine ya_iast (hG.s0 89 rfl) (hG.lt0 89 (by decide)) dX12_readBuyer_110 h (fun d110 h => ?_)
  refine ya_aload_n 1 rfl dX12_readBuyer_111 ?_
  refine ya_getR fo_X12_31 (hG.o0 83 rfl) (hG.lt0 83 (by decide)) (hG.l0 87 rfl) dX12_readBuyer_112 ?_
  refine ya_iload_n 0 rfl dX12_readBuyer_115 ?_
  refine ya_iconst 5 (by decide) dX12_readBuyer_116 ?_
  refine ya_iadd dX12_readBuyer_117 ?_
  refine ya_aload_n 1 rfl dX12_readBuyer_118 ?_
  refine ya_ldcS 26 rfl dX12_readBuyer_119 ?_
  refine ya_iconst 0 (by decide) dX12_readBuyer_121 ?_
  refine ya_bipush 30 (by decide) dX12_readBuyer_122 ?_
  obtain ⟨x124, d124, e124, h⟩ := ya_ob2 h
  refine ya_callVi (S := [.int (((426 : Int32) + ((6 : Int32) * x10)) + 5), .ref (X.2.1 + 89)]) (c_X12_told hG e124) m_X12_told ⟨rfl, rfl⟩ ml_X12_187 rfl ⟨Nat.le_of_ble_eq_true rfl, Nat.le_of_ble_eq_true rfl⟩ (Nat.le_of_ble_eq_true rfl) (hG.lt0 83 (by decide)) (hG.o0 83 rfl) (by decide) rfl rfl ⟨Nat.le_refl _, Nat.le_refl _⟩ dX12_readBuyer_124 rfl ?_
  refine ya_iast (hG.s0 89 rfl) (hG.lt0 89 (by decide)) dX12_readBuyer_127 h (fun d127 h => ?_)
  refine ya_aload_n 1 rfl dX12_readBuyer_128 ?_
  refine ya_getR fo_X12_31 (hG.o0 83 rfl) (hG.lt0 83 (by decide)) (hG.l0 87 rfl) dX12_readBuyer_129 ?_
  refine ya_iconst 3 (by decide) dX12_readBuyer_132 ?_
  refine ya_dup2 rfl rfl dX12_readBuyer_133 ?_
  refine ya_iald (hG.s0 89 rfl) (hG.lt0 89 (by decide)) dX12_readBuyer_134 h (fun x134 h => ?_)
  refine ya_iconst 1 (by decide) dX12_readBuyer_135 ?_
  refine ya_iadd dX12_readBuyer_136 ?_
  refine ya_iast (hG.s0 89 rfl) (hG.lt0 89 (by decide)) dX12_readBuyer_137 h (fun d137 h => ?_)
  cases h
  exact ya_vret rfl rfl rfl rfl rfl (Nat.le_refl _) dX12_readBuyer_138
