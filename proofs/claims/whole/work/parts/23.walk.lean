set_option maxRecDepth 20000 in
theorem c_X11_keeping {X : ya_X} {G : ya_G} {v1 : Int32} {v2 : Int32} {d : ya_D} {rr : (Int32 × ya_D)} (hG : ya_Bk ya_sh ya_ln G 0) (h : f_X11_keeping v1 v2 d = some rr) : ya_Ct X yX11_keeping Y_X11_keeping [.ref (X.2.1 + 0), .int v1, .int v2] G d (some (.int rr.1), G, rr.2) := by
  refine ya_ct (by decide +kernel) rfl rfl (Nat.le_of_ble_eq_true rfl) ?_
  unfold f_X11_keeping at h
  show ya_E X Y_X11_keeping (ya_M X (some (.int rr.1), G, rr.2) 0 0) 0 [(0, .ref (X.2.1 + 0)), (1, .int v1), (2, .int v2)] [] G d 0 0
  refine ya_aload_n 0 rfl dX11_keeping_0 ?_
  refine ya_iload_n 1 rfl dX11_keeping_1 ?_
  obtain ⟨x2, e2, h⟩ := ya_ob h
  refine ya_callVi (S := []) (c_X11_isSeller hG e2) m_X11_isSeller ⟨rfl, rfl⟩ ml_X11_130 rfl ⟨Nat.le_of_ble_eq_true rfl, Nat.le_of_ble_eq_true rfl⟩ (Nat.le_of_ble_eq_true rfl) (hG.lt0 0 (by decide)) (hG.o0 0 rfl) (by decide) rfl rfl ⟨Nat.le_refl _, Nat.le_refl _⟩ dX11_keeping_2 rfl ?_
  refine ya_j0_s h (ya_E X Y_X11_keeping (ya_M X (some (.int rr.1), G, rr.2) 0 0) 18 [] [] G d 0 0) (fun h => ?_) (fun k18 hk18 h => ?_)
  · refine ya_bipush (-2) (by decide) dX11_keeping_18 ?_
    cases h
    exact ya_iret rfl rfl rfl rfl rfl (Nat.le_refl _) dX11_keeping_20
  · refine ya_ifeq 18 (by decide) dX11_keeping_5 (fun c => ?_) (fun c => ?_)
    · replace h := ya_itet h c
      refine ya_sub [] [] rfl ?_
      exact hk18  h
    · replace h := ya_itef h c
      refine ya_iload_n 2 rfl dX11_keeping_8 ?_
      refine ya_iconst 0 (by decide) dX11_keeping_9 ?_
      refine ya_bipush 30 (by decide) dX11_keeping_10 ?_
      obtain ⟨x12, e12, h⟩ := ya_ob h
      refine ya_callSi (S := []) (c_X11_within hG e12) m_X11_within ⟨rfl, rfl⟩ ml_X11_213 rfl ⟨Nat.le_of_ble_eq_true rfl, Nat.le_of_ble_eq_true rfl⟩ (Nat.le_of_ble_eq_true rfl) ⟨Nat.le_refl _, Nat.le_refl _⟩ dX11_keeping_12 rfl ?_
      refine ya_ifne 21 (by decide) dX11_keeping_15 (fun c => ?_) (fun c => ?_)
      · replace h := ya_itef h c
        refine ya_aload_n 0 rfl dX11_keeping_21 ?_
        refine ya_getR fo_X11_43 (hG.o0 0 rfl) (hG.lt0 0 (by decide)) (hG.l0 77 rfl) dX11_keeping_22 ?_
        refine ya_aload_n 0 rfl dX11_keeping_25 ?_
        refine ya_getR fo_X11_26 (hG.o0 0 rfl) (hG.lt0 0 (by decide)) (hG.l0 40 rfl) dX11_keeping_26 ?_
        refine ya_iload_n 1 rfl dX11_keeping_29 ?_
        obtain ⟨d30, e30, h⟩ := ya_ob h
        refine ya_callVv (S := []) (c_X5_load hG (bk_0_24 hG) e30) m_X5_load ⟨rfl, rfl⟩ ml_X11_258 rfl ⟨Nat.le_of_ble_eq_true rfl, Nat.le_of_ble_eq_true rfl⟩ (Nat.le_of_ble_eq_true rfl) (hG.lt0 72 (by decide)) (hG.o0 72 rfl) (by decide) rfl rfl ⟨Nat.le_refl _, Nat.le_refl _⟩ dX11_keeping_30 rfl ?_
        refine ya_aload_n 0 rfl dX11_keeping_33 ?_
        refine ya_getR fo_X11_43 (hG.o0 0 rfl) (hG.lt0 0 (by decide)) (hG.l0 77 rfl) dX11_keeping_34 ?_
        refine ya_iload_n 2 rfl dX11_keeping_37 ?_
        refine ya_putIb fo_X11_268 (hG.o0 72 rfl) (hG.lt0 72 (by decide)) .int pf_X5_7 rfl rfl dX11_keeping_38 h (fun d38 h => ?_)
        refine ya_aload_n 0 rfl dX11_keeping_41 ?_
        refine ya_getR fo_X11_43 (hG.o0 0 rfl) (hG.lt0 0 (by decide)) (hG.l0 77 rfl) dX11_keeping_42 ?_
        obtain ⟨x45, d45, e45, h⟩ := ya_ob2 h
        refine ya_callVi (S := []) (c_X5_bring hG e45) m_X5_bring ⟨rfl, rfl⟩ ml_X11_261 rfl ⟨Nat.le_of_ble_eq_true rfl, Nat.le_of_ble_eq_true rfl⟩ (Nat.le_of_ble_eq_true rfl) (hG.lt0 72 (by decide)) (hG.o0 72 rfl) (by decide) rfl rfl ⟨Nat.le_refl _, Nat.le_refl _⟩ dX11_keeping_45 rfl ?_
        cases h
        exact ya_iret rfl rfl rfl rfl rfl (Nat.le_refl _) dX11_keeping_48
      · replace h := ya_itet h c
        refine ya_sub [] [] rfl ?_
        exact hk18  h
set_option maxRecDepth 20000 in
theorem w_X11_enough_L21 {X : ya_X} {G : ya_G} {v1 : Int32} {v2 : Int32} {rr : (Int32 × ya_D)} (hG : ya_Bk ya_sh ya_ln G 0) : ∀ (n : Nat) (v3 : Int32) (d : ya_D), f_X11_enough_L21 v1 v2 n v3 d = some rr → ya_E X Y_X11_enough (ya_M X (some (.int rr.1), G, rr.2) 0 0) 21 [(0, .ref (X.2.1 + 0)), (1, .int v1), (2, .int v2), (3, .int v3)] [] G d 0 0 := by
  intro n
  induction n with
  | zero => intro v3 d h; cases h
  | succ n ih =>
    intro v3 d h
    rw [f_X11_enough_L21] at h
    refine ya_iload_n 3 rfl dX11_enough_21 ?_
    refine ya_bipush 30 (by decide) dX11_enough_22 ?_
    refine ya_icmp_ge 45 (by decide) dX11_enough_24 (fun c => ?_) (fun c => ?_)
    · replace h := ya_itet h c
      refine ya_bipush 30 (by decide) dX11_enough_45 ?_
      cases h
      exact ya_iret rfl rfl rfl rfl rfl (Nat.le_refl _) dX11_enough_47
    · replace h := ya_itef h c
      refine ya_aload_n 0 rfl dX11_enough_27 ?_
      refine ya_iload_n 1 rfl dX11_enough_28 ?_
      refine ya_iload_n 3 rfl dX11_enough_29 ?_
      obtain ⟨x30, d30, e30, h⟩ := ya_ob2 h
      refine ya_callVi (S := []) (c_X11_keeping hG e30) m_X11_keeping ⟨rfl, rfl⟩ ml_X11_271 rfl ⟨Nat.le_of_ble_eq_true rfl, Nat.le_of_ble_eq_true rfl⟩ (Nat.le_of_ble_eq_true rfl) (hG.lt0 0 (by decide)) (hG.o0 0 rfl) (by decide) rfl rfl ⟨Nat.le_refl _, Nat.le_refl _⟩ dX11_enough_30 rfl ?_
      refine ya_iload_n 2 rfl dX11_enough_33 ?_
      refine ya_icmp_ne 39 (by decide) dX11_enough_34 (fun c => ?_) (fun c => ?_)
      · replace h := ya_itef h c
        refine ya_iinc (v3 + 1) rfl 3 rfl [(3, .int (v3 + 1)), (0, .ref (X.2.1 + 0)), (1, .int v1), (2, .int v2)] (by decide) rfl dX11_enough_39 ?_
        refine ya_goto 21 (by decide) dX11_enough_42 ?_
        refine ya_sub [(0, .ref (X.2.1 + 0)), (1, .int v1), (2, .int v2), (3, .int (v3 + 1))] [1, 2, 3, 0] rfl ?_
        exact ih _ _ h
      · replace h := ya_itet h c
        refine ya_iload_n 3 rfl dX11_enough_37 ?_
        cases h
        exact ya_iret rfl rfl rfl rfl rfl (Nat.le_refl _) dX11_enough_38
set_option maxRecDepth 20000 in
theorem c_X11_enough {X : ya_X} {G : ya_G} {v1 : Int32} {d : ya_D} {rr : (Int32 × ya_D)} (hG : ya_Bk ya_sh ya_ln G 0) (h : f_X11_enough v1 d = some rr) : ya_Ct X yX11_enough Y_X11_enough [.ref (X.2.1 + 0), .int v1] G d (some (.int rr.1), G, rr.2) := by
  refine ya_ct (by decide +kernel) rfl rfl (Nat.le_of_ble_eq_true rfl) ?_
  unfold f_X11_enough at h
  show ya_E X Y_X11_enough (ya_M X (some (.int rr.1), G, rr.2) 0 0) 0 [(0, .ref (X.2.1 + 0)), (1, .int v1)] [] G d 0 0
  refine ya_aload_n 0 rfl dX11_enough_0 ?_
  refine ya_iload_n 1 rfl dX11_enough_1 ?_
  obtain ⟨x2, e2, h⟩ := ya_ob h
  refine ya_callVi (S := []) (c_X11_isSeller hG e2) m_X11_isSeller ⟨rfl, rfl⟩ ml_X11_130 rfl ⟨Nat.le_of_ble_eq_true rfl, Nat.le_of_ble_eq_true rfl⟩ (Nat.le_of_ble_eq_true rfl) (hG.lt0 0 (by decide)) (hG.o0 0 rfl) (by decide) rfl rfl ⟨Nat.le_refl _, Nat.le_refl _⟩ dX11_enough_2 rfl ?_
  refine ya_ifne 11 (by decide) dX11_enough_5 (fun c => ?_) (fun c => ?_)
  · replace h := ya_itef h c
    refine ya_aload_n 0 rfl dX11_enough_11 ?_
    refine ya_iload_n 1 rfl dX11_enough_12 ?_
    refine ya_bipush 30 (by decide) dX11_enough_13 ?_
    obtain ⟨x15, d15, e15, h⟩ := ya_ob2 h
    refine ya_callVi (S := []) (c_X11_keeping hG e15) m_X11_keeping ⟨rfl, rfl⟩ ml_X11_271 rfl ⟨Nat.le_of_ble_eq_true rfl, Nat.le_of_ble_eq_true rfl⟩ (Nat.le_of_ble_eq_true rfl) (hG.lt0 0 (by decide)) (hG.o0 0 rfl) (by decide) rfl rfl ⟨Nat.le_refl _, Nat.le_refl _⟩ dX11_enough_15 rfl ?_
    refine ya_istore_n [(2, .int x15), (0, .ref (X.2.1 + 0)), (1, .int v1)] (by decide) rfl dX11_enough_18 ?_
    refine ya_iconst 0 (by decide) dX11_enough_19 ?_
    refine ya_istore_n [(3, .int 0), (2, .int x15), (0, .ref (X.2.1 + 0)), (1, .int v1)] (by decide) rfl dX11_enough_20 ?_
    refine ya_sub [(0, .ref (X.2.1 + 0)), (1, .int v1), (2, .int x15), (3, .int 0)] [2, 3, 1, 0] rfl ?_
    refine w_X11_enough_L21 hG  ya_F _ _ h
  · replace h := ya_itet h c
    refine ya_bipush (-2) (by decide) dX11_enough_8 ?_
    cases h
    exact ya_iret rfl rfl rfl rfl rfl (Nat.le_refl _) dX11_enough_10
set_option maxRecDepth 20000 in
theorem c_X11_cheapest {X : ya_X} {G : ya_G} {v1 : Int32} {d : ya_D} {rr : (Int32 × ya_D)} (hG : ya_Bk ya_sh ya_ln G 0) (h : f_X11_cheapest v1 d = some rr) : ya_Ct X yX11_cheapest Y_X11_cheapest [.ref (X.2.1 + 0), .int v1] G d (some (.int rr.1), G, rr.2) := by
  refine ya_ct (by decide +kernel) rfl rfl (Nat.le_of_ble_eq_true rfl) ?_
  unfold f_X11_cheapest at h
  show ya_E X Y_X11_cheapest (ya_M X (some (.int rr.1), G, rr.2) 0 0) 0 [(0, .ref (X.2.1 + 0)), (1, .int v1)] [] G d 0 0
  refine ya_aload_n 0 rfl dX11_cheapest_0 ?_
  refine ya_iload_n 1 rfl dX11_cheapest_1 ?_
  obtain ⟨x2, e2, h⟩ := ya_ob h
  refine ya_callVi (S := []) (c_X11_isBuyer hG e2) m_X11_isBuyer ⟨rfl, rfl⟩ ml_X11_159 rfl ⟨Nat.le_of_ble_eq_true rfl, Nat.le_of_ble_eq_true rfl⟩ (Nat.le_of_ble_eq_true rfl) (hG.lt0 0 (by decide)) (hG.o0 0 rfl) (by decide) rfl rfl ⟨Nat.le_refl _, Nat.le_refl _⟩ dX11_cheapest_2 rfl ?_
  refine ya_ifeq 23 (by decide) dX11_cheapest_5 (fun c => ?_) (fun c => ?_)
  · replace h := ya_itet h c
    refine ya_bipush (-2) (by decide) dX11_cheapest_23 ?_
    cases h
    exact ya_iret rfl rfl rfl rfl rfl (Nat.le_refl _) dX11_cheapest_25
  · replace h := ya_itef h c
    refine ya_aload_n 0 rfl dX11_cheapest_8 ?_
    refine ya_getR fo_X11_50 (hG.o0 0 rfl) (hG.lt0 0 (by decide)) (hG.l0 79 rfl) dX11_cheapest_9 ?_
    refine ya_aload_n 0 rfl dX11_cheapest_12 ?_
    refine ya_getR fo_X11_26 (hG.o0 0 rfl) (hG.lt0 0 (by decide)) (hG.l0 40 rfl) dX11_cheapest_13 ?_
    refine ya_iload_n 1 rfl dX11_cheapest_16 ?_
    obtain ⟨x17, d17, e17, h⟩ := ya_ob2 h
    refine ya_callVi (S := []) (c_X0_plan hG (bk_0_24 hG) e17) m_X0_plan ⟨rfl, rfl⟩ ml_X11_274 rfl ⟨Nat.le_of_ble_eq_true rfl, Nat.le_of_ble_eq_true rfl⟩ (Nat.le_of_ble_eq_true rfl) (hG.lt0 79 (by decide)) (hG.o0 79 rfl) (by decide) rfl rfl ⟨Nat.le_refl _, Nat.le_refl _⟩ dX11_cheapest_17 rfl ?_
    refine ya_goto 25 (by decide) dX11_cheapest_20 ?_
    cases h
    exact ya_iret rfl rfl rfl rfl rfl (Nat.le_refl _) dX11_cheapest_25
set_option maxRecDepth 20000 in
theorem c_X11_buys {X : ya_X} {G : ya_G} {v1 : Int32} {v2 : Int32} {d : ya_D} {rr : (Int32 × ya_D)} (hG : ya_Bk ya_sh ya_ln G 0) (h : f_X11_buys v1 v2 d = some rr) : ya_Ct X yX11_buys Y_X11_buys [.ref (X.2.1 + 0), .int v1, .int v2] G d (some (.int rr.1), G, rr.2) := by
  refine ya_ct (by decide +kernel) rfl rfl (Nat.le_of_ble_eq_true rfl) ?_
  unfold f_X11_buys at h
  show ya_E X Y_X11_buys (ya_M X (some (.int rr.1), G, rr.2) 0 0) 0 [(0, .ref (X.2.1 + 0)), (1, .int v1), (2, .int v2)] [] G d 0 0
  refine ya_aload_n 0 rfl dX11_buys_0 ?_
  refine ya_iload_n 1 rfl dX11_buys_1 ?_
  obtain ⟨x2, e2, h⟩ := ya_ob h
  refine ya_callVi (S := []) (c_X11_isBuyer hG e2) m_X11_isBuyer ⟨rfl, rfl⟩ ml_X11_159 rfl ⟨Nat.le_of_ble_eq_true rfl, Nat.le_of_ble_eq_true rfl⟩ (Nat.le_of_ble_eq_true rfl) (hG.lt0 0 (by decide)) (hG.o0 0 rfl) (by decide) rfl rfl ⟨Nat.le_refl _, Nat.le_refl _⟩ dX11_buys_2 rfl ?_
  refine ya_j0_s h (ya_E X Y_X11_buys (ya_M X (some (.int rr.1), G, rr.2) 0 0) 16 [] [] G d 0 0) (fun h => ?_) (fun k16 hk16 h => ?_)
  · refine ya_bipush (-2) (by decide) dX11_buys_16 ?_
    cases h
    exact ya_iret rfl rfl rfl rfl rfl (Nat.le_refl _) dX11_buys_18
  · refine ya_ifeq 16 (by decide) dX11_buys_5 (fun c => ?_) (fun c => ?_)
    · replace h := ya_itet h c
      refine ya_sub [] [] rfl ?_
      exact hk16  h
    · replace h := ya_itef h c
      refine ya_aload_n 0 rfl dX11_buys_8 ?_
      refine ya_iload_n 2 rfl dX11_buys_9 ?_
      obtain ⟨x10, e10, h⟩ := ya_ob h
      refine ya_callVi (S := []) (c_X11_isDay hG e10) m_X11_isDay ⟨rfl, rfl⟩ ml_X11_150 rfl ⟨Nat.le_of_ble_eq_true rfl, Nat.le_of_ble_eq_true rfl⟩ (Nat.le_of_ble_eq_true rfl) (hG.lt0 0 (by decide)) (hG.o0 0 rfl) (by decide) rfl rfl ⟨Nat.le_refl _, Nat.le_refl _⟩ dX11_buys_10 rfl ?_
      refine ya_ifne 19 (by decide) dX11_buys_13 (fun c => ?_) (fun c => ?_)
      · replace h := ya_itef h c
        refine ya_aload_n 0 rfl dX11_buys_19 ?_
        refine ya_getR fo_X11_50 (hG.o0 0 rfl) (hG.lt0 0 (by decide)) (hG.l0 79 rfl) dX11_buys_20 ?_
        refine ya_aload_n 0 rfl dX11_buys_23 ?_
        refine ya_getR fo_X11_26 (hG.o0 0 rfl) (hG.lt0 0 (by decide)) (hG.l0 40 rfl) dX11_buys_24 ?_
        refine ya_iload_n 1 rfl dX11_buys_27 ?_
        obtain ⟨x28, d28, e28, h⟩ := ya_ob2 h
        refine ya_callVi (S := []) (c_X0_plan hG (bk_0_24 hG) e28) m_X0_plan ⟨rfl, rfl⟩ ml_X11_274 rfl ⟨Nat.le_of_ble_eq_true rfl, Nat.le_of_ble_eq_true rfl⟩ (Nat.le_of_ble_eq_true rfl) (hG.lt0 79 (by decide)) (hG.o0 79 rfl) (by decide) rfl rfl ⟨Nat.le_refl _, Nat.le_refl _⟩ dX11_buys_28 rfl ?_
        refine ya_pop rfl dX11_buys_31 ?_
        refine ya_aload_n 0 rfl dX11_buys_32 ?_
        refine ya_getR fo_X11_50 (hG.o0 0 rfl) (hG.lt0 0 (by decide)) (hG.l0 79 rfl) dX11_buys_33 ?_
        refine ya_getR fo_X11_278 (hG.o0 79 rfl) (hG.lt0 79 (by decide)) (hG.l0 78 rfl) dX11_buys_36 ?_
        refine ya_iload_n 2 rfl dX11_buys_39 ?_
        refine ya_iald (hG.s0 80 rfl) (hG.lt0 80 (by decide)) dX11_buys_40 h (fun x40 h => ?_)
        cases h
        exact ya_iret rfl rfl rfl rfl rfl (Nat.le_refl _) dX11_buys_41
      · replace h := ya_itet h c
        refine ya_sub [] [] rfl ?_
        exact hk16  h
set_option maxRecDepth 20000 in
theorem w_X11_crowd_L28 {X : ya_X} {G : ya_G} {d : ya_D} {rr : (Int32 × ya_D)} (hG : ya_Bk ya_sh ya_ln G 0) : ∀ (n : Nat) (v2 : Int32) (v3 : Int32), f_X11_crowd_L28 d n v2 v3 = some rr → ya_E X Y_X11_crowd (ya_M X (some (.int rr.1), G, rr.2) 0 0) 28 [(0, .ref (X.2.1 + 0)), (2, .int v2), (3, .int v3)] [] G d 0 0 := by
  intro n
  induction n with
  | zero => intro v2 v3 h; cases h
  | succ n ih =>
    intro v2 v3 h
    rw [f_X11_crowd_L28] at h
    refine ya_iload_n 2 rfl dX11_crowd_28 ?_
    refine ya_aload_n 0 rfl dX11_crowd_29 ?_
    refine ya_getR fo_X11_26 (hG.o0 0 rfl) (hG.lt0 0 (by decide)) (hG.l0 40 rfl) dX11_crowd_30 ?_
    refine ya_getI fo_X11_192 (hG.o0 24 rfl) (hG.lt0 24 (by decide)) dX11_crowd_33 ?_
    refine ya_icmp_ge 68 (by decide) dX11_crowd_36 (fun c => ?_) (fun c => ?_)
    · replace h := ya_itet h c
      refine ya_iload_n 1 rfl dX11_crowd_68 ?_
      cases h
      exact ya_iret rfl rfl rfl rfl rfl (Nat.le_refl _) dX11_crowd_69
    · replace h := ya_itef h c
      refine ya_aload_n 0 rfl dX11_crowd_39 ?_
      refine ya_getR fo_X11_50 (hG.o0 0 rfl) (hG.lt0 0 (by decide)) (hG.l0 79 rfl) dX11_crowd_40 ?_
      refine ya_getR fo_X11_278 (hG.o0 79 rfl) (hG.lt0 79 (by decide)) (hG.l0 78 rfl) dX11_crowd_43 ?_
      refine ya_iload_n 2 rfl dX11_crowd_46 ?_
      refine ya_iald (hG.s0 80 rfl) (hG.lt0 80 (by decide)) dX11_crowd_47 h (fun x47 h => ?_)
      refine ya_aload_n 0 rfl dX11_crowd_48 ?_
      refine ya_getR fo_X11_50 (hG.o0 0 rfl) (hG.lt0 0 (by decide)) (hG.l0 79 rfl) dX11_crowd_49 ?_
      refine ya_getR fo_X11_278 (hG.o0 79 rfl) (hG.lt0 79 (by decide)) (hG.l0 78 rfl) dX11_crowd_52 ?_
      refine ya_iload_n 1 rfl dX11_crowd_55 ?_
      refine ya_iald (hG.s0 80 rfl) (hG.lt0 80 (by decide)) dX11_crowd_56 h (fun x56 h => ?_)
      refine ya_j1_s h (fun v2_62 => ya_E X Y_X11_crowd (ya_M X (some (.int rr.1), G, rr.2) 0 0) 62 [(0, .ref (X.2.1 + 0)), (2, .int v2_62), (3, .int v3)] [] G d 0 0) (fun v2_62 h => ?_) (fun k62 hk62 h => ?_)
      · refine ya_iinc (v3 + 1) rfl 2 rfl [(3, .int (v3 + 1)), (0, .ref (X.2.1 + 0)), (2, .int v2_62)] (by decide) rfl dX11_crowd_62 ?_
        refine ya_goto 28 (by decide) dX11_crowd_65 ?_
        refine ya_sub [(0, .ref (X.2.1 + 0)), (2, .int v2_62), (3, .int (v3 + 1))] [1, 2, 0] rfl ?_
        exact ih _ _ h
      · refine ya_icmp_le 62 (by decide) dX11_crowd_57 (fun c => ?_) (fun c => ?_)
        · replace h := ya_itet h c
          exact hk62 _ h
        · replace h := ya_itef h c
          refine ya_iload_n 2 rfl dX11_crowd_60 ?_
          refine ya_istore_n [(2, .int v3), (0, .ref (X.2.1 + 0)), (3, .int v3)] (by decide) rfl dX11_crowd_61 ?_
          refine ya_sub [(0, .ref (X.2.1 + 0)), (2, .int v3), (3, .int v3)] [1, 0, 2] rfl ?_
          exact hk62 _ h
set_option maxRecDepth 20000 in
theorem c_X11_crowd {X : ya_X} {G : ya_G} {v1 : Int32} {d : ya_D} {rr : (Int32 × ya_D)} (hG : ya_Bk ya_sh ya_ln G 0) (h : f_X11_crowd v1 d = some rr) : ya_Ct X yX11_crowd Y_X11_crowd [.ref (X.2.1 + 0), .int v1] G d (some (.int rr.1), G, rr.2) := by
  refine ya_ct (by decide +kernel) rfl rfl (Nat.le_of_ble_eq_true rfl) ?_
  unfold f_X11_crowd at h
  show ya_E X Y_X11_crowd (ya_M X (some (.int rr.1), G, rr.2) 0 0) 0 [(0, .ref (X.2.1 + 0)), (1, .int v1)] [] G d 0 0
  refine ya_aload_n 0 rfl dX11_crowd_0 ?_
  refine ya_iload_n 1 rfl dX11_crowd_1 ?_
  obtain ⟨x2, e2, h⟩ := ya_ob h
  refine ya_callVi (S := []) (c_X11_isBuyer hG e2) m_X11_isBuyer ⟨rfl, rfl⟩ ml_X11_159 rfl ⟨Nat.le_of_ble_eq_true rfl, Nat.le_of_ble_eq_true rfl⟩ (Nat.le_of_ble_eq_true rfl) (hG.lt0 0 (by decide)) (hG.o0 0 rfl) (by decide) rfl rfl ⟨Nat.le_refl _, Nat.le_refl _⟩ dX11_crowd_2 rfl ?_
  refine ya_ifne 11 (by decide) dX11_crowd_5 (fun c => ?_) (fun c => ?_)
  · replace h := ya_itef h c
    refine ya_aload_n 0 rfl dX11_crowd_11 ?_
    refine ya_getR fo_X11_50 (hG.o0 0 rfl) (hG.lt0 0 (by decide)) (hG.l0 79 rfl) dX11_crowd_12 ?_
    refine ya_aload_n 0 rfl dX11_crowd_15 ?_
    refine ya_getR fo_X11_26 (hG.o0 0 rfl) (hG.lt0 0 (by decide)) (hG.l0 40 rfl) dX11_crowd_16 ?_
    refine ya_iload_n 1 rfl dX11_crowd_19 ?_
    obtain ⟨x20, d20, e20, h⟩ := ya_ob2 h
    refine ya_callVi (S := []) (c_X0_plan hG (bk_0_24 hG) e20) m_X0_plan ⟨rfl, rfl⟩ ml_X11_274 rfl ⟨Nat.le_of_ble_eq_true rfl, Nat.le_of_ble_eq_true rfl⟩ (Nat.le_of_ble_eq_true rfl) (hG.lt0 79 (by decide)) (hG.o0 79 rfl) (by decide) rfl rfl ⟨Nat.le_refl _, Nat.le_refl _⟩ dX11_crowd_20 rfl ?_
    refine ya_pop rfl dX11_crowd_23 ?_
    refine ya_iconst 0 (by decide) dX11_crowd_24 ?_
    refine ya_istore_n [(2, .int 0), (0, .ref (X.2.1 + 0)), (1, .int v1)] (by decide) rfl dX11_crowd_25 ?_
    refine ya_iconst 1 (by decide) dX11_crowd_26 ?_
    refine ya_istore_n [(3, .int 1), (2, .int 0), (0, .ref (X.2.1 + 0)), (1, .int v1)] (by decide) rfl dX11_crowd_27 ?_
    refine ya_sub [(0, .ref (X.2.1 + 0)), (2, .int 0), (3, .int 1)] [2, 1, 0] rfl ?_
    refine w_X11_crowd_L28 hG  ya_F _ _ h
  · replace h := ya_itet h c
    refine ya_bipush (-2) (by decide) dX11_crowd_8 ?_
    cases h
    exact ya_iret rfl rfl rfl rfl rfl (Nat.le_refl _) dX11_crowd_10
set_option maxRecDepth 20000 in
theorem c_X11_mark {X : ya_X} {G : ya_G} {v1 : Int32} {v2 : Int32} {v3 : Int32} {d : ya_D} {rr : (Int32 × ya_D)} (hG : ya_Bk ya_sh ya_ln G 0) (h : f_X11_mark v1 v2 v3 d = some rr) : ya_Ct X yX11_mark Y_X11_mark [.ref (X.2.1 + 0), .int v1, .int v2, .int v3] G d (some (.int rr.1), G, rr.2) := by
  refine ya_ct (by decide +kernel) rfl rfl (Nat.le_of_ble_eq_true rfl) ?_
  unfold f_X11_mark at h
  show ya_E X Y_X11_mark (ya_M X (some (.int rr.1), G, rr.2) 0 0) 0 [(0, .ref (X.2.1 + 0)), (1, .int v1), (2, .int v2), (3, .int v3)] [] G d 0 0
  refine ya_aload_n 0 rfl dX11_mark_0 ?_
  refine ya_iload_n 1 rfl dX11_mark_1 ?_
  refine ya_iload_n 2 rfl dX11_mark_2 ?_
  obtain ⟨x3, e3, h⟩ := ya_ob h
  refine ya_callVi (S := []) (c_X11_isThingDay hG e3) m_X11_isThingDay ⟨rfl, rfl⟩ ml_X11_96 rfl ⟨Nat.le_of_ble_eq_true rfl, Nat.le_of_ble_eq_true rfl⟩ (Nat.le_of_ble_eq_true rfl) (hG.lt0 0 (by decide)) (hG.o0 0 rfl) (by decide) rfl rfl ⟨Nat.le_refl _, Nat.le_refl _⟩ dX11_mark_3 rfl ?_
  refine ya_j0_s h (ya_E X Y_X11_mark (ya_M X (some (.int rr.1), G, rr.2) 0 0) 19 [] [] G d 0 0) (fun h => ?_) (fun k19 hk19 h => ?_)
  · refine ya_bipush (-2) (by decide) dX11_mark_19 ?_
    cases h
    exact ya_iret rfl rfl rfl rfl rfl (Nat.le_refl _) dX11_mark_21
  · refine ya_ifeq 19 (by decide) dX11_mark_6 (fun c => ?_) (fun c => ?_)
    · replace h := ya_itet h c
      refine ya_sub [] [] rfl ?_
      exact hk19  h
    · replace h := ya_itef h c
      refine ya_iload_n 3 rfl dX11_mark_9 ?_
      refine ya_iconst 0 (by decide) dX11_mark_10 ?_
      refine ya_bipush 99 (by decide) dX11_mark_11 ?_
      obtain ⟨x13, e13, h⟩ := ya_ob h
      refine ya_callSi (S := []) (c_X11_within hG e13) m_X11_within ⟨rfl, rfl⟩ ml_X11_213 rfl ⟨Nat.le_of_ble_eq_true rfl, Nat.le_of_ble_eq_true rfl⟩ (Nat.le_of_ble_eq_true rfl) ⟨Nat.le_refl _, Nat.le_refl _⟩ dX11_mark_13 rfl ?_
      refine ya_ifne 22 (by decide) dX11_mark_16 (fun c => ?_) (fun c => ?_)
      · replace h := ya_itef h c
        refine ya_iload_n 1 rfl dX11_mark_22 ?_
        refine ya_iload_n 2 rfl dX11_mark_23 ?_
        obtain ⟨x24, e24, h⟩ := ya_ob h
        refine ya_callSi (S := []) (c_X11_cell hG e24) m_X11_cell ⟨rfl, rfl⟩ ml_X11_110 rfl ⟨Nat.le_of_ble_eq_true rfl, Nat.le_of_ble_eq_true rfl⟩ (Nat.le_of_ble_eq_true rfl) ⟨Nat.le_refl _, Nat.le_refl _⟩ dX11_mark_24 rfl ?_
        refine ya_istore [(4, .int x24), (0, .ref (X.2.1 + 0)), (1, .int v1), (2, .int v2), (3, .int v3)] (by decide) rfl dX11_mark_27 ?_
        refine ya_aload_n 1 rfl dX11_mark_29 ?_
        refine ya_getR fo_X11_26 (hG.o0 0 rfl) (hG.lt0 0 (by decide)) (hG.l0 40 rfl) dX11_mark_30 ?_
        refine ya_getR fo_X11_100 (hG.o0 24 rfl) (hG.lt0 24 (by decide)) (hG.l0 27 rfl) dX11_mark_33 ?_
        refine ya_getR fo_X11_281 (hG.o0 25 rfl) (hG.lt0 25 (by decide)) (hG.l0 26 rfl) dX11_mark_36 ?_
        refine ya_iload 0 rfl dX11_mark_39 ?_
        refine ya_iload_n 4 rfl dX11_mark_41 ?_
        refine ya_aload_n 1 rfl dX11_mark_42 ?_
        refine ya_getR fo_X11_26 (hG.o0 0 rfl) (hG.lt0 0 (by decide)) (hG.l0 40 rfl) dX11_mark_43 ?_
        refine ya_getR fo_X11_100 (hG.o0 24 rfl) (hG.lt0 24 (by decide)) (hG.l0 27 rfl) dX11_mark_46 ?_
        refine ya_getR fo_X11_104 (hG.o0 25 rfl) (hG.lt0 25 (by decide)) (hG.l0 24 rfl) dX11_mark_49 ?_
        refine ya_iload 0 rfl dX11_mark_52 ?_
        refine ya_iald (hG.s0 27 rfl) (hG.lt0 27 (by decide)) dX11_mark_54 h (fun x54 h => ?_)
        refine ya_aload_n 1 rfl dX11_mark_55 ?_
        refine ya_getR fo_X11_26 (hG.o0 0 rfl) (hG.lt0 0 (by decide)) (hG.l0 40 rfl) dX11_mark_56 ?_
        refine ya_getI fo_X11_284 (hG.o0 24 rfl) (hG.lt0 24 (by decide)) dX11_mark_59 ?_
        refine ya_iadd dX11_mark_62 ?_
        refine ya_mmin ml_X11_287 wm_min1 wm_min2 wm_min3 (by decide) (Nat.le_of_ble_eq_true rfl) ⟨Nat.le_refl _, Nat.le_refl _⟩ dX11_mark_63 ?_
        refine ya_iast (hG.s0 29 rfl) (hG.lt0 29 (by decide)) dX11_mark_66 h (fun d66 h => ?_)
        refine ya_aload_n 1 rfl dX11_mark_67 ?_
        refine ya_getR fo_X11_26 (hG.o0 0 rfl) (hG.lt0 0 (by decide)) (hG.l0 40 rfl) dX11_mark_68 ?_
        refine ya_getR fo_X11_100 (hG.o0 24 rfl) (hG.lt0 24 (by decide)) (hG.l0 27 rfl) dX11_mark_71 ?_
        refine ya_getR fo_X11_281 (hG.o0 25 rfl) (hG.lt0 25 (by decide)) (hG.l0 26 rfl) dX11_mark_74 ?_
        refine ya_iload 0 rfl dX11_mark_77 ?_
        refine ya_iald (hG.s0 29 rfl) (hG.lt0 29 (by decide)) dX11_mark_79 h (fun x79 h => ?_)
        cases h
        exact ya_iret rfl rfl rfl rfl rfl (Nat.le_refl _) dX11_mark_80
      · replace h := ya_itet h c
        refine ya_sub [] [] rfl ?_
        exact hk19  h
set_option maxRecDepth 20000 in
theorem w_X11_markedOtherwise_L20 {X : ya_X} {G : ya_G} {v2 : Int32} {d : ya_D} {rr : Int32} {e85 : Int32 → Option Int32} (hG : ya_Bk ya_sh ya_ln G 0) (he85 : ∀ (v1 : Int32), e85 v1 = some rr → ya_E X Y_X11_markedOtherwise (ya_M X (some (.int rr), G, d) 0 0) 85 [(0, .ref (X.2.1 + 0)), (1, .int v1), (2, .int v2)] [] G d 0 0) : ∀ (n : Nat) (v1 : Int32) (v3 : Int32), f_X11_markedOtherwise_L20 v2 d e85 n v1 v3 = some rr → ya_E X Y_X11_markedOtherwise (ya_M X (some (.int rr), G, d) 0 0) 20 [(0, .ref (X.2.1 + 0)), (1, .int v1), (2, .int v2), (3, .int v3)] [] G d 0 0 := by
  intro n
  induction n with
  | zero => intro v1 v3 h; cases h
  | succ n ih =>
    intro v1 v3 h
    rw [f_X11_markedOtherwise_L20] at h
    refine ya_iload_n 3 rfl dX11_markedOtherwise_20 ?_
    refine ya_aload_n 0 rfl dX11_markedOtherwise_21 ?_
    refine ya_getR fo_X11_26 (hG.o0 0 rfl) (hG.lt0 0 (by decide)) (hG.l0 40 rfl) dX11_markedOtherwise_22 ?_
    refine ya_getI fo_X11_192 (hG.o0 24 rfl) (hG.lt0 24 (by decide)) dX11_markedOtherwise_25 ?_
    refine ya_icmp_ge 85 (by decide) dX11_markedOtherwise_28 (fun c => ?_) (fun c => ?_)
    · replace h := ya_itet h c
      refine ya_sub [(0, .ref (X.2.1 + 0)), (1, .int v1), (2, .int v2)] [0, 1, 2] rfl ?_
      exact he85 _ h
    · replace h := ya_itef h c
      refine ya_aload_n 0 rfl dX11_markedOtherwise_31 ?_
      refine ya_getR fo_X11_26 (hG.o0 0 rfl) (hG.lt0 0 (by decide)) (hG.l0 40 rfl) dX11_markedOtherwise_32 ?_
      refine ya_getR fo_X11_100 (hG.o0 24 rfl) (hG.lt0 24 (by decide)) (hG.l0 27 rfl) dX11_markedOtherwise_35 ?_
      refine ya_getR fo_X11_281 (hG.o0 25 rfl) (hG.lt0 25 (by decide)) (hG.l0 26 rfl) dX11_markedOtherwise_38 ?_
      refine ya_iload_n 2 rfl dX11_markedOtherwise_41 ?_
      refine ya_iload_n 3 rfl dX11_markedOtherwise_42 ?_
      obtain ⟨x43, e43, h⟩ := ya_ob h
      refine ya_callSi (S := [.ref (X.2.1 + 29)]) (c_X11_cell hG e43) m_X11_cell ⟨rfl, rfl⟩ ml_X11_110 rfl ⟨Nat.le_of_ble_eq_true rfl, Nat.le_of_ble_eq_true rfl⟩ (Nat.le_of_ble_eq_true rfl) ⟨Nat.le_refl _, Nat.le_refl _⟩ dX11_markedOtherwise_43 rfl ?_
      refine ya_iald (hG.s0 29 rfl) (hG.lt0 29 (by decide)) dX11_markedOtherwise_46 h (fun x46 h => ?_)
      refine ya_istore [(4, .int x46), (0, .ref (X.2.1 + 0)), (1, .int v1), (2, .int v2), (3, .int v3)] (by decide) rfl dX11_markedOtherwise_47 ?_
      refine ya_iload 0 rfl dX11_markedOtherwise_49 ?_
      refine ya_iconst (-1) (by decide) dX11_markedOtherwise_51 ?_
      refine ya_j1_s h (fun v1_79 => ya_E X Y_X11_markedOtherwise (ya_M X (some (.int rr), G, d) 0 0) 79 [(0, .ref (X.2.1 + 0)), (1, .int v1_79), (2, .int v2), (3, .int v3)] [] G d 0 0) (fun v1_79 h => ?_) (fun k79 hk79 h => ?_)
      · refine ya_iinc (v3 + 1) rfl 3 rfl [(3, .int (v3 + 1)), (0, .ref (X.2.1 + 0)), (1, .int v1_79), (2, .int v2)] (by decide) rfl dX11_markedOtherwise_79 ?_
        refine ya_goto 20 (by decide) dX11_markedOtherwise_82 ?_
        refine ya_sub [(0, .ref (X.2.1 + 0)), (1, .int v1_79), (2, .int v2), (3, .int (v3 + 1))] [1, 2, 3, 0] rfl ?_
        exact ih _ _ h
      · refine ya_icmp_eq 79 (by decide) dX11_markedOtherwise_52 (fun c => ?_) (fun c => ?_)
        · replace h := ya_itet h c
          refine ya_sub [(0, .ref (X.2.1 + 0)), (1, .int v1), (2, .int v2), (3, .int v3)] [1, 2, 3, 4] rfl ?_
          exact hk79 _ h
        · replace h := ya_itef h c
          refine ya_iload 0 rfl dX11_markedOtherwise_55 ?_
          refine ya_aload_n 1 rfl dX11_markedOtherwise_57 ?_
          refine ya_getR fo_X11_26 (hG.o0 0 rfl) (hG.lt0 0 (by decide)) (hG.l0 40 rfl) dX11_markedOtherwise_58 ?_
          refine ya_getR fo_X11_100 (hG.o0 24 rfl) (hG.lt0 24 (by decide)) (hG.l0 27 rfl) dX11_markedOtherwise_61 ?_
          refine ya_getR fo_X11_104 (hG.o0 25 rfl) (hG.lt0 25 (by decide)) (hG.l0 24 rfl) dX11_markedOtherwise_64 ?_
          refine ya_iload_n 3 rfl dX11_markedOtherwise_67 ?_
          refine ya_iload_n 4 rfl dX11_markedOtherwise_68 ?_
          obtain ⟨x69, e69, h⟩ := ya_ob h
          refine ya_callSi (S := [.ref (X.2.1 + 27), .int x46]) (c_X11_cell hG e69) m_X11_cell ⟨rfl, rfl⟩ ml_X11_110 rfl ⟨Nat.le_of_ble_eq_true rfl, Nat.le_of_ble_eq_true rfl⟩ (Nat.le_of_ble_eq_true rfl) ⟨Nat.le_refl _, Nat.le_refl _⟩ dX11_markedOtherwise_69 rfl ?_
          refine ya_iald (hG.s0 27 rfl) (hG.lt0 27 (by decide)) dX11_markedOtherwise_72 h (fun x72 h => ?_)
          refine ya_icmp_eq 79 (by decide) dX11_markedOtherwise_73 (fun c => ?_) (fun c => ?_)
          · replace h := ya_itet h c
            refine ya_sub [(0, .ref (X.2.1 + 0)), (1, .int v1), (2, .int v2), (3, .int v3)] [1, 2, 3, 4] rfl ?_
            exact hk79 _ h
          · replace h := ya_itef h c
            refine ya_iinc (v1 + 1) rfl 2 rfl [(1, .int (v1 + 1)), (4, .int x46), (0, .ref (X.2.1 + 0)), (2, .int v2), (3, .int v3)] (by decide) rfl dX11_markedOtherwise_76 ?_
            refine ya_sub [(0, .ref (X.2.1 + 0)), (1, .int (v1 + 1)), (2, .int v2), (3, .int v3)] [2, 0, 3, 4] rfl ?_
            exact hk79 _ h
set_option maxRecDepth 20000 in
theorem w_X11_markedOtherwise_L4 {X : ya_X} {G : ya_G} {d : ya_D} {rr : Int32} (hG : ya_Bk ya_sh ya_ln G 0) : ∀ (n : Nat) (v1 : Int32) (v2 : Int32), f_X11_markedOtherwise_L4 d n v1 v2 = some rr → ya_E X Y_X11_markedOtherwise (ya_M X (some (.int rr), G, d) 0 0) 4 [(0, .ref (X.2.1 + 0)), (1, .int v1), (2, .int v2)] [] G d 0 0 := by
  intro n
  induction n with
  | zero => intro v1 v2 h; cases h
  | succ n ih =>
    intro v1 v2 h
    rw [f_X11_markedOtherwise_L4] at h
    refine ya_iload_n 2 rfl dX11_markedOtherwise_4 ?_
    refine ya_aload_n 0 rfl dX11_markedOtherwise_5 ?_
    refine ya_getR fo_X11_26 (hG.o0 0 rfl) (hG.lt0 0 (by decide)) (hG.l0 40 rfl) dX11_markedOtherwise_6 ?_
    refine ya_getR fo_X11_100 (hG.o0 24 rfl) (hG.lt0 24 (by decide)) (hG.l0 27 rfl) dX11_markedOtherwise_9 ?_
    refine ya_getI fo_X11_342 (hG.o0 25 rfl) (hG.lt0 25 (by decide)) dX11_markedOtherwise_12 ?_
    refine ya_icmp_ge 91 (by decide) dX11_markedOtherwise_15 (fun c => ?_) (fun c => ?_)
    · replace h := ya_itet h c
      refine ya_iload_n 1 rfl dX11_markedOtherwise_91 ?_
      cases h
      exact ya_iret rfl rfl rfl rfl rfl (Nat.le_refl _) dX11_markedOtherwise_92
    · replace h := ya_itef h c
      refine ya_iconst 0 (by decide) dX11_markedOtherwise_18 ?_
      refine ya_istore_n [(3, .int 0), (0, .ref (X.2.1 + 0)), (1, .int v1), (2, .int v2)] (by decide) rfl dX11_markedOtherwise_19 ?_
      refine ya_sub [(0, .ref (X.2.1 + 0)), (1, .int v1), (2, .int v2), (3, .int 0)] [1, 2, 3, 0] rfl ?_
      refine w_X11_markedOtherwise_L20 hG (fun v1_85 h => ?_) ya_F _ _ h
      refine ya_iinc (v2 + 1) rfl 2 rfl [(2, .int (v2 + 1)), (0, .ref (X.2.1 + 0)), (1, .int v1_85)] (by decide) rfl dX11_markedOtherwise_85 ?_
      refine ya_goto 4 (by decide) dX11_markedOtherwise_88 ?_
      refine ya_sub [(0, .ref (X.2.1 + 0)), (1, .int v1_85), (2, .int (v2 + 1))] [1, 2, 0] rfl ?_
      exact ih _ _ h
set_option maxRecDepth 20000 in
theorem c_X11_markedOtherwise {X : ya_X} {G : ya_G} {d : ya_D} {rr : Int32} (hG : ya_Bk ya_sh ya_ln G 0) (h : f_X11_markedOtherwise d = some rr) : ya_Ct X yX11_markedOtherwise Y_X11_markedOtherwise [.ref (X.2.1 + 0)] G d (some (.int rr), G, d) := by
  refine ya_ct (by decide +kernel) rfl rfl (Nat.le_of_ble_eq_true rfl) ?_
  unfold f_X11_markedOtherwise at h
  show ya_E X Y_X11_markedOtherwise (ya_M X (some (.int rr), G, d) 0 0) 0 [(0, .ref (X.2.1 + 0))] [] G d 0 0
  refine ya_iconst 0 (by decide) dX11_markedOtherwise_0 ?_
  refine ya_istore_n [(1, .int 0), (0, .ref (X.2.1 + 0))] (by decide) rfl dX11_markedOtherwise_1 ?_
  refine ya_iconst 0 (by decide) dX11_markedOtherwise_2 ?_
  refine ya_istore_n [(2, .int 0), (1, .int 0), (0, .ref (X.2.1 + 0))] (by decide) rfl dX11_markedOtherwise_3 ?_
  refine ya_sub [(0, .ref (X.2.1 + 0)), (1, .int 0), (2, .int 0)] [2, 1, 0] rfl ?_
  refine w_X11_markedOtherwise_L4 hG  ya_F _ _ h
set_option maxRecDepth 20000 in
theorem c_X11_turn {X : ya_X} {G : ya_G} {d : ya_D} {rr : (Int32 × ya_D)} (hG : ya_Bk ya_sh ya_ln G 0) (h : f_X11_turn d = some rr) : ya_Ct X yX11_turn Y_X11_turn [.ref (X.2.1 + 0)] G d (some (.int rr.1), G, rr.2) := by
  refine ya_ct (by decide +kernel) rfl rfl (Nat.le_of_ble_eq_true rfl) ?_
  unfold f_X11_turn at h
  show ya_E X Y_X11_turn (ya_M X (some (.int rr.1), G, rr.2) 0 0) 0 [(0, .ref (X.2.1 + 0))] [] G d 0 0
  refine ya_aload_n 0 rfl dX11_turn_0 ?_
  obtain ⟨x1, e1, h⟩ := ya_ob h
  refine ya_callVi (S := []) (c_X11_isMarket hG e1) m_X11_isMarket ⟨rfl, rfl⟩ ml_X11_177 rfl ⟨Nat.le_of_ble_eq_true rfl, Nat.le_of_ble_eq_true rfl⟩ (Nat.le_of_ble_eq_true rfl) (hG.lt0 0 (by decide)) (hG.o0 0 rfl) (by decide) rfl rfl ⟨Nat.le_refl _, Nat.le_refl _⟩ dX11_turn_1 rfl ?_
  refine ya_ifne 10 (by decide) dX11_turn_4 (fun c => ?_) (fun c => ?_)
  · replace h := ya_itef h c
    refine ya_aload_n 0 rfl dX11_turn_10 ?_
    obtain ⟨x11, e11, h⟩ := ya_ob h
    refine ya_callVi (S := []) (c_X11_markedOtherwise hG e11) m_X11_markedOtherwise ⟨rfl, rfl⟩ ml_X11_290 rfl ⟨Nat.le_of_ble_eq_true rfl, Nat.le_of_ble_eq_true rfl⟩ (Nat.le_of_ble_eq_true rfl) (hG.lt0 0 (by decide)) (hG.o0 0 rfl) (by decide) rfl rfl ⟨Nat.le_refl _, Nat.le_refl _⟩ dX11_turn_11 rfl ?_
    refine ya_istore_n [(1, .int x11), (0, .ref (X.2.1 + 0))] (by decide) rfl dX11_turn_14 ?_
    refine ya_aload_n 1 rfl dX11_turn_15 ?_
    refine ya_getR fo_X11_26 (hG.o0 0 rfl) (hG.lt0 0 (by decide)) (hG.l0 40 rfl) dX11_turn_16 ?_
    refine ya_getR fo_X11_100 (hG.o0 24 rfl) (hG.lt0 24 (by decide)) (hG.l0 27 rfl) dX11_turn_19 ?_
    obtain ⟨d22, e22, h⟩ := ya_ob h
    refine ya_callVv (S := []) (c_X8_turnYear hG (bk_0_25 hG) e22) m_X8_turnYear ⟨rfl, rfl⟩ ml_X11_293 rfl ⟨Nat.le_of_ble_eq_true rfl, Nat.le_of_ble_eq_true rfl⟩ (Nat.le_of_ble_eq_true rfl) (hG.lt0 25 (by decide)) (hG.o0 25 rfl) (by decide) rfl rfl ⟨Nat.le_refl _, Nat.le_refl _⟩ dX11_turn_22 rfl ?_
    refine ya_aload_n 1 rfl dX11_turn_25 ?_
    refine ya_iconst 0 (by decide) dX11_turn_26 ?_
    refine ya_putIb fo_X11_64 (hG.o0 0 rfl) (hG.lt0 0 (by decide)) .boolean pf_X11_9 (by decide) rfl dX11_turn_27 h (fun d27 h => ?_)
    refine ya_iload_n 0 rfl dX11_turn_30 ?_
    cases h
    exact ya_iret rfl rfl rfl rfl rfl (Nat.le_refl _) dX11_turn_31
  · replace h := ya_itet h c
    refine ya_bipush (-2) (by decide) dX11_turn_7 ?_
    cases h
    exact ya_iret rfl rfl rfl rfl rfl (Nat.le_refl _) dX11_turn_9
set_option maxRecDepth 20000 in
theorem c_X11_wantedFor {X : ya_X} {G : ya_G} {v1 : Int32} {v2 : Int32} {v3 : Int32} {d : ya_D} {rr : Int32} (hG : ya_Bk ya_sh ya_ln G 0) (h : f_X11_wantedFor v1 v2 v3 d = some rr) : ya_Ct X yX11_wantedFor Y_X11_wantedFor [.ref (X.2.1 + 0), .int v1, .int v2, .int v3] G d (some (.int rr), G, d) := by
  refine ya_ct (by decide +kernel) rfl rfl (Nat.le_of_ble_eq_true rfl) ?_
  unfold f_X11_wantedFor at h
  show ya_E X Y_X11_wantedFor (ya_M X (some (.int rr), G, d) 0 0) 0 [(0, .ref (X.2.1 + 0)), (1, .int v1), (2, .int v2), (3, .int v3)] [] G d 0 0
  refine ya_aload_n 0 rfl dX11_wantedFor_0 ?_
  refine ya_getR fo_X11_26 (hG.o0 0 rfl) (hG.lt0 0 (by decide)) (hG.l0 40 rfl) dX11_wantedFor_1 ?_
  refine ya_getR fo_X11_168 (hG.o0 24 rfl) (hG.lt0 24 (by decide)) (hG.l0 39 rfl) dX11_wantedFor_4 ?_
  refine ya_aload_n 0 rfl dX11_wantedFor_7 ?_
  refine ya_getR fo_X11_26 (hG.o0 0 rfl) (hG.lt0 0 (by decide)) (hG.l0 40 rfl) dX11_wantedFor_8 ?_
  refine ya_getR fo_X11_181 (hG.o0 24 rfl) (hG.lt0 24 (by decide)) (hG.l0 32 rfl) dX11_wantedFor_11 ?_
  refine ya_getR fo_X11_240 (hG.o0 30 rfl) (hG.lt0 30 (by decide)) (hG.l0 28 rfl) dX11_wantedFor_14 ?_
  refine ya_iload_n 1 rfl dX11_wantedFor_17 ?_
  refine ya_iald (hG.s0 31 rfl) (hG.lt0 31 (by decide)) dX11_wantedFor_18 h (fun x18 h => ?_)
  refine ya_iload_n 2 rfl dX11_wantedFor_19 ?_
  refine ya_iload_n 3 rfl dX11_wantedFor_20 ?_
  obtain ⟨x21, e21, h⟩ := ya_ob h
  refine ya_callVi (S := []) (c_X1_wanted hG (bk_0_35 hG) e21) m_X1_wanted ⟨rfl, rfl⟩ ml_X11_209 rfl ⟨Nat.le_of_ble_eq_true rfl, Nat.le_of_ble_eq_true rfl⟩ (Nat.le_of_ble_eq_true rfl) (hG.lt0 35 (by decide)) (hG.o0 35 rfl) (by decide) rfl rfl ⟨Nat.le_refl _, Nat.le_refl _⟩ dX11_wantedFor_21 rfl ?_
  cases h
  exact ya_iret rfl rfl rfl rfl rfl (Nat.le_refl _) dX11_wantedFor_24
set_option maxRecDepth 20000 in
theorem c_X11_bringAt {X : ya_X} {G : ya_G} {v1 : Int32} {v2 : Int32} {v3 : Int32} {d : ya_D} {rr : (Int32 × ya_D)} (hG : ya_Bk ya_sh ya_ln G 0) (h : f_X11_bringAt v1 v2 v3 d = some rr) : ya_Ct X yX11_bringAt Y_X11_bringAt [.ref (X.2.1 + 0), .int v1, .int v2, .int v3] G d (some (.int rr.1), G, rr.2) := by
  refine ya_ct (by decide +kernel) rfl rfl (Nat.le_of_ble_eq_true rfl) ?_
  unfold f_X11_bringAt at h
  show ya_E X Y_X11_bringAt (ya_M X (some (.int rr.1), G, rr.2) 0 0) 0 [(0, .ref (X.2.1 + 0)), (1, .int v1), (2, .int v2), (3, .int v3)] [] G d 0 0
  refine ya_aload_n 0 rfl dX11_bringAt_0 ?_
  refine ya_getR fo_X11_43 (hG.o0 0 rfl) (hG.lt0 0 (by decide)) (hG.l0 77 rfl) dX11_bringAt_1 ?_
  refine ya_iload_n 2 rfl dX11_bringAt_4 ?_
  refine ya_iload_n 3 rfl dX11_bringAt_5 ?_
  refine ya_aload_n 0 rfl dX11_bringAt_6 ?_
  refine ya_iload_n 1 rfl dX11_bringAt_7 ?_
  refine ya_iload_n 2 rfl dX11_bringAt_8 ?_
  refine ya_iload_n 3 rfl dX11_bringAt_9 ?_
  obtain ⟨x10, e10, h⟩ := ya_ob h
  refine ya_callVi (S := [.int v3, .int v2, .ref (X.2.1 + 72)]) (c_X11_wantedFor hG e10) m_X11_wantedFor ⟨rfl, rfl⟩ ml_X11_300 rfl ⟨Nat.le_of_ble_eq_true rfl, Nat.le_of_ble_eq_true rfl⟩ (Nat.le_of_ble_eq_true rfl) (hG.lt0 0 (by decide)) (hG.o0 0 rfl) (by decide) rfl rfl ⟨Nat.le_refl _, Nat.le_refl _⟩ dX11_bringAt_10 rfl ?_
  obtain ⟨x13, d13, e13, h⟩ := ya_ob2 h
  refine ya_callVi (S := []) (c_X5_bringAt hG e13) m_X5_bringAt ⟨rfl, rfl⟩ ml_X11_391 rfl ⟨Nat.le_of_ble_eq_true rfl, Nat.le_of_ble_eq_true rfl⟩ (Nat.le_of_ble_eq_true rfl) (hG.lt0 72 (by decide)) (hG.o0 72 rfl) (by decide) rfl rfl ⟨Nat.le_refl _, Nat.le_refl _⟩ dX11_bringAt_13 rfl ?_
  cases h
  exact ya_iret rfl rfl rfl rfl rfl (Nat.le_refl _) dX11_bringAt_16
set_option maxRecDepth 20000 in
theorem c_X11_made {X : ya_X} {G : ya_G} {v1 : Int32} {v2 : Int32} {v3 : Int32} {d : ya_D} {rr : (Int32 × ya_D)} (hG : ya_Bk ya_sh ya_ln G 0) (h : f_X11_made v1 v2 v3 d = some rr) : ya_Ct X yX11_made Y_X11_made [.ref (X.2.1 + 0), .int v1, .int v2, .int v3] G d (some (.int rr.1), G, rr.2) := by
  refine ya_ct (by decide +kernel) rfl rfl (Nat.le_of_ble_eq_true rfl) ?_
  unfold f_X11_made at h
  show ya_E X Y_X11_made (ya_M X (some (.int rr.1), G, rr.2) 0 0) 0 [(0, .ref (X.2.1 + 0)), (1, .int v1), (2, .int v2), (3, .int v3)] [] G d 0 0
  refine ya_aload_n 0 rfl dX11_made_0 ?_
  refine ya_iload_n 1 rfl dX11_made_1 ?_
  obtain ⟨x2, e2, h⟩ := ya_ob h
  refine ya_callVi (S := []) (c_X11_isSeller hG e2) m_X11_isSeller ⟨rfl, rfl⟩ ml_X11_130 rfl ⟨Nat.le_of_ble_eq_true rfl, Nat.le_of_ble_eq_true rfl⟩ (Nat.le_of_ble_eq_true rfl) (hG.lt0 0 (by decide)) (hG.o0 0 rfl) (by decide) rfl rfl ⟨Nat.le_refl _, Nat.le_refl _⟩ dX11_made_2 rfl ?_
  refine ya_j0_s h (ya_E X Y_X11_made (ya_M X (some (.int rr.1), G, rr.2) 0 0) 26 [] [] G d 0 0) (fun h => ?_) (fun k26 hk26 h => ?_)
  · refine ya_ldcw (-1000000) kc_X11_296 dX11_made_26 ?_
    cases h
    exact ya_iret rfl rfl rfl rfl rfl (Nat.le_refl _) dX11_made_29
  · refine ya_ifeq 26 (by decide) dX11_made_5 (fun c => ?_) (fun c => ?_)
    · replace h := ya_itet h c
      refine ya_sub [] [] rfl ?_
      exact hk26  h
    · replace h := ya_itef h c
      refine ya_aload_n 0 rfl dX11_made_8 ?_
      refine ya_iload_n 2 rfl dX11_made_9 ?_
      obtain ⟨x10, e10, h⟩ := ya_ob h
      refine ya_callVi (S := []) (c_X11_isDay hG e10) m_X11_isDay ⟨rfl, rfl⟩ ml_X11_150 rfl ⟨Nat.le_of_ble_eq_true rfl, Nat.le_of_ble_eq_true rfl⟩ (Nat.le_of_ble_eq_true rfl) (hG.lt0 0 (by decide)) (hG.o0 0 rfl) (by decide) rfl rfl ⟨Nat.le_refl _, Nat.le_refl _⟩ dX11_made_10 rfl ?_
      refine ya_ifeq 26 (by decide) dX11_made_13 (fun c => ?_) (fun c => ?_)
      · replace h := ya_itet h c
        refine ya_sub [] [] rfl ?_
        exact hk26  h
      · replace h := ya_itef h c
        refine ya_iload_n 3 rfl dX11_made_16 ?_
        refine ya_iconst 0 (by decide) dX11_made_17 ?_
        refine ya_bipush 99 (by decide) dX11_made_18 ?_
        obtain ⟨x20, e20, h⟩ := ya_ob h
        refine ya_callSi (S := []) (c_X11_within hG e20) m_X11_within ⟨rfl, rfl⟩ ml_X11_213 rfl ⟨Nat.le_of_ble_eq_true rfl, Nat.le_of_ble_eq_true rfl⟩ (Nat.le_of_ble_eq_true rfl) ⟨Nat.le_refl _, Nat.le_refl _⟩ dX11_made_20 rfl ?_
        refine ya_ifne 30 (by decide) dX11_made_23 (fun c => ?_) (fun c => ?_)
        · replace h := ya_itef h c
          refine ya_aload_n 0 rfl dX11_made_30 ?_
          refine ya_getR fo_X11_43 (hG.o0 0 rfl) (hG.lt0 0 (by decide)) (hG.l0 77 rfl) dX11_made_31 ?_
          refine ya_aload_n 0 rfl dX11_made_34 ?_
          refine ya_getR fo_X11_26 (hG.o0 0 rfl) (hG.lt0 0 (by decide)) (hG.l0 40 rfl) dX11_made_35 ?_
          refine ya_iload_n 1 rfl dX11_made_38 ?_
          obtain ⟨d39, e39, h⟩ := ya_ob h
          refine ya_callVv (S := []) (c_X5_load hG (bk_0_24 hG) e39) m_X5_load ⟨rfl, rfl⟩ ml_X11_258 rfl ⟨Nat.le_of_ble_eq_true rfl, Nat.le_of_ble_eq_true rfl⟩ (Nat.le_of_ble_eq_true rfl) (hG.lt0 72 (by decide)) (hG.o0 72 rfl) (by decide) rfl rfl ⟨Nat.le_refl _, Nat.le_refl _⟩ dX11_made_39 rfl ?_
          refine ya_aload_n 0 rfl dX11_made_42 ?_
          refine ya_iload_n 1 rfl dX11_made_43 ?_
          refine ya_iload_n 2 rfl dX11_made_44 ?_
          refine ya_iload_n 3 rfl dX11_made_45 ?_
          obtain ⟨x46, d46, e46, h⟩ := ya_ob2 h
          refine ya_callVi (S := []) (c_X11_bringAt hG e46) m_X11_bringAt ⟨rfl, rfl⟩ ml_X11_297 rfl ⟨Nat.le_of_ble_eq_true rfl, Nat.le_of_ble_eq_true rfl⟩ (Nat.le_of_ble_eq_true rfl) (hG.lt0 0 (by decide)) (hG.o0 0 rfl) (by decide) rfl rfl ⟨Nat.le_refl _, Nat.le_refl _⟩ dX11_made_46 rfl ?_
          refine ya_aload_n 0 rfl dX11_made_49 ?_
          refine ya_getR fo_X11_43 (hG.o0 0 rfl) (hG.lt0 0 (by decide)) (hG.l0 77 rfl) dX11_made_50 ?_
          obtain ⟨x53, d53, e53, h⟩ := ya_ob2 h
          refine ya_callVi (S := [.int x46]) (c_X5_bring hG e53) m_X5_bring ⟨rfl, rfl⟩ ml_X11_261 rfl ⟨Nat.le_of_ble_eq_true rfl, Nat.le_of_ble_eq_true rfl⟩ (Nat.le_of_ble_eq_true rfl) (hG.lt0 72 (by decide)) (hG.o0 72 rfl) (by decide) rfl rfl ⟨Nat.le_refl _, Nat.le_refl _⟩ dX11_made_53 rfl ?_
          refine ya_isub dX11_made_56 ?_
          cases h
          exact ya_iret rfl rfl rfl rfl rfl (Nat.le_refl _) dX11_made_57
        · replace h := ya_itet h c
          refine ya_sub [] [] rfl ?_
          exact hk26  h
set_option maxRecDepth 20000 in
theorem w_X11_least_L56 {X : ya_X} {G : ya_G} {v1 : Int32} {v2 : Int32} {v4 : Int32} {rr : (Int32 × ya_D)} (hG : ya_Bk ya_sh ya_ln G 0) : ∀ (n : Nat) (v5 : Int32) (d : ya_D), f_X11_least_L56 v1 v2 v4 n v5 d = some rr → ya_E X Y_X11_least (ya_M X (some (.int rr.1), G, rr.2) 0 0) 56 [(0, .ref (X.2.1 + 0)), (1, .int v1), (2, .int v2), (4, .int v4), (5, .int v5)] [] G d 0 0 := by
  intro n
  induction n with
  | zero => intro v5 d h; cases h
  | succ n ih =>
    intro v5 d h
    rw [f_X11_least_L56] at h
    refine ya_iload 4 rfl dX11_least_56 ?_
    refine ya_bipush 99 (by decide) dX11_least_58 ?_
    refine ya_icmp_gt 85 (by decide) dX11_least_60 (fun c => ?_) (fun c => ?_)
    · replace h := ya_itet h c
      refine ya_iconst (-1) (by decide) dX11_least_85 ?_
      cases h
      exact ya_iret rfl rfl rfl rfl rfl (Nat.le_refl _) dX11_least_86
    · replace h := ya_itef h c
      refine ya_aload_n 0 rfl dX11_least_63 ?_
      refine ya_iload_n 1 rfl dX11_least_64 ?_
      refine ya_iload_n 2 rfl dX11_least_65 ?_
      refine ya_iload 4 rfl dX11_least_66 ?_
      obtain ⟨x68, d68, e68, h⟩ := ya_ob2 h
      refine ya_callVi (S := []) (c_X11_bringAt hG e68) m_X11_bringAt ⟨rfl, rfl⟩ ml_X11_297 rfl ⟨Nat.le_of_ble_eq_true rfl, Nat.le_of_ble_eq_true rfl⟩ (Nat.le_of_ble_eq_true rfl) (hG.lt0 0 (by decide)) (hG.o0 0 rfl) (by decide) rfl rfl ⟨Nat.le_refl _, Nat.le_refl _⟩ dX11_least_68 rfl ?_
      refine ya_iload 3 rfl dX11_least_71 ?_
      refine ya_icmp_lt 79 (by decide) dX11_least_73 (fun c => ?_) (fun c => ?_)
      · replace h := ya_itet h c
        refine ya_iinc (v5 + 1) rfl 4 rfl [(5, .int (v5 + 1)), (0, .ref (X.2.1 + 0)), (1, .int v1), (2, .int v2), (4, .int v4)] (by decide) rfl dX11_least_79 ?_
        refine ya_goto 56 (by decide) dX11_least_82 ?_
        refine ya_sub [(0, .ref (X.2.1 + 0)), (1, .int v1), (2, .int v2), (4, .int v4), (5, .int (v5 + 1))] [1, 2, 3, 4, 0] rfl ?_
        exact ih _ _ h
      · replace h := ya_itef h c
        refine ya_iload 4 rfl dX11_least_76 ?_
        cases h
        exact ya_iret rfl rfl rfl rfl rfl (Nat.le_refl _) dX11_least_78
set_option maxRecDepth 20000 in
theorem c_X11_least {X : ya_X} {G : ya_G} {v1 : Int32} {v2 : Int32} {v3 : Int32} {d : ya_D} {rr : (Int32 × ya_D)} (hG : ya_Bk ya_sh ya_ln G 0) (h : f_X11_least v1 v2 v3 d = some rr) : ya_Ct X yX11_least Y_X11_least [.ref (X.2.1 + 0), .int v1, .int v2, .int v3] G d (some (.int rr.1), G, rr.2) := by
  refine ya_ct (by decide +kernel) rfl rfl (Nat.le_of_ble_eq_true rfl) ?_
  unfold f_X11_least at h
  show ya_E X Y_X11_least (ya_M X (some (.int rr.1), G, rr.2) 0 0) 0 [(0, .ref (X.2.1 + 0)), (1, .int v1), (2, .int v2), (3, .int v3)] [] G d 0 0
  refine ya_aload_n 0 rfl dX11_least_0 ?_
  refine ya_iload_n 1 rfl dX11_least_1 ?_
  obtain ⟨x2, e2, h⟩ := ya_ob h
  refine ya_callVi (S := []) (c_X11_isSeller hG e2) m_X11_isSeller ⟨rfl, rfl⟩ ml_X11_130 rfl ⟨Nat.le_of_ble_eq_true rfl, Nat.le_of_ble_eq_true rfl⟩ (Nat.le_of_ble_eq_true rfl) (hG.lt0 0 (by decide)) (hG.o0 0 rfl) (by decide) rfl rfl ⟨Nat.le_refl _, Nat.le_refl _⟩ dX11_least_2 rfl ?_
  refine ya_j0_s h (ya_E X Y_X11_least (ya_M X (some (.int rr.1), G, rr.2) 0 0) 27 [] [] G d 0 0) (fun h => ?_) (fun k27 hk27 h => ?_)
  · refine ya_bipush (-2) (by decide) dX11_least_27 ?_
    cases h
    exact ya_iret rfl rfl rfl rfl rfl (Nat.le_refl _) dX11_least_29
  · refine ya_ifeq 27 (by decide) dX11_least_5 (fun c => ?_) (fun c => ?_)
    · replace h := ya_itet h c
      refine ya_sub [] [] rfl ?_
      exact hk27  h
    · replace h := ya_itef h c
      refine ya_aload_n 0 rfl dX11_least_8 ?_
      refine ya_iload_n 2 rfl dX11_least_9 ?_
      obtain ⟨x10, e10, h⟩ := ya_ob h
      refine ya_callVi (S := []) (c_X11_isDay hG e10) m_X11_isDay ⟨rfl, rfl⟩ ml_X11_150 rfl ⟨Nat.le_of_ble_eq_true rfl, Nat.le_of_ble_eq_true rfl⟩ (Nat.le_of_ble_eq_true rfl) (hG.lt0 0 (by decide)) (hG.o0 0 rfl) (by decide) rfl rfl ⟨Nat.le_refl _, Nat.le_refl _⟩ dX11_least_10 rfl ?_
      refine ya_ifeq 27 (by decide) dX11_least_13 (fun c => ?_) (fun c => ?_)
      · replace h := ya_itet h c
        refine ya_sub [] [] rfl ?_
        exact hk27  h
      · replace h := ya_itef h c
        refine ya_iload_n 3 rfl dX11_least_16 ?_
        refine ya_iconst 1 (by decide) dX11_least_17 ?_
        refine ya_sipush 9999 (by decide) dX11_least_18 ?_
        obtain ⟨x21, e21, h⟩ := ya_ob h
        refine ya_callSi (S := []) (c_X11_within hG e21) m_X11_within ⟨rfl, rfl⟩ ml_X11_213 rfl ⟨Nat.le_of_ble_eq_true rfl, Nat.le_of_ble_eq_true rfl⟩ (Nat.le_of_ble_eq_true rfl) ⟨Nat.le_refl _, Nat.le_refl _⟩ dX11_least_21 rfl ?_
        refine ya_ifne 30 (by decide) dX11_least_24 (fun c => ?_) (fun c => ?_)
        · replace h := ya_itef h c
          refine ya_aload_n 0 rfl dX11_least_30 ?_
          refine ya_getR fo_X11_43 (hG.o0 0 rfl) (hG.lt0 0 (by decide)) (hG.l0 77 rfl) dX11_least_31 ?_
          refine ya_aload_n 0 rfl dX11_least_34 ?_
          refine ya_getR fo_X11_26 (hG.o0 0 rfl) (hG.lt0 0 (by decide)) (hG.l0 40 rfl) dX11_least_35 ?_
          refine ya_iload_n 1 rfl dX11_least_38 ?_
          obtain ⟨d39, e39, h⟩ := ya_ob h
          refine ya_callVv (S := []) (c_X5_load hG (bk_0_24 hG) e39) m_X5_load ⟨rfl, rfl⟩ ml_X11_258 rfl ⟨Nat.le_of_ble_eq_true rfl, Nat.le_of_ble_eq_true rfl⟩ (Nat.le_of_ble_eq_true rfl) (hG.lt0 72 (by decide)) (hG.o0 72 rfl) (by decide) rfl rfl ⟨Nat.le_refl _, Nat.le_refl _⟩ dX11_least_39 rfl ?_
          refine ya_aload_n 0 rfl dX11_least_42 ?_
          refine ya_getR fo_X11_43 (hG.o0 0 rfl) (hG.lt0 0 (by decide)) (hG.l0 77 rfl) dX11_least_43 ?_
          obtain ⟨x46, d46, e46, h⟩ := ya_ob2 h
          refine ya_callVi (S := []) (c_X5_bring hG e46) m_X5_bring ⟨rfl, rfl⟩ ml_X11_261 rfl ⟨Nat.le_of_ble_eq_true rfl, Nat.le_of_ble_eq_true rfl⟩ (Nat.le_of_ble_eq_true rfl) (hG.lt0 72 (by decide)) (hG.o0 72 rfl) (by decide) rfl rfl ⟨Nat.le_refl _, Nat.le_refl _⟩ dX11_least_46 rfl ?_
          refine ya_iload_n 3 rfl dX11_least_49 ?_
          refine ya_iadd dX11_least_50 ?_
          refine ya_istore [(4, .int (x46 + v3)), (0, .ref (X.2.1 + 0)), (1, .int v1), (2, .int v2), (3, .int v3)] (by decide) rfl dX11_least_51 ?_
          refine ya_iconst 0 (by decide) dX11_least_53 ?_
          refine ya_istore [(5, .int 0), (4, .int (x46 + v3)), (0, .ref (X.2.1 + 0)), (1, .int v1), (2, .int v2), (3, .int v3)] (by decide) rfl dX11_least_54 ?_
          refine ya_sub [(0, .ref (X.2.1 + 0)), (1, .int v1), (2, .int v2), (4, .int (x46 + v3)), (5, .int 0)] [2, 3, 4, 1, 0] rfl ?_
          refine w_X11_least_L56 hG  ya_F _ _ h
        · replace h := ya_itet h c
          refine ya_sub [] [] rfl ?_
          exact hk27  h
set_option maxRecDepth 20000 in
theorem w_X11_most_L97 {X : ya_X} {G : ya_G} {v1 : Int32} {v2 : Int32} {v5 : Int32} {v6 : Int32} {rr : (Int32 × ya_D)} {e170 : Int32 → Int32 → ya_D → Option (Int32 × ya_D)} (hG : ya_Bk ya_sh ya_ln G 0) (he170 : ∀ (v3 : Int32) (v4 : Int32) (d : ya_D), e170 v3 v4 d = some rr → ya_E X Y_X11_most (ya_M X (some (.int rr.1), G, rr.2) 0 0) 170 [(0, .ref (X.2.1 + 0)), (1, .int v1), (2, .int v2), (3, .int v3), (4, .int v4), (5, .int v5)] [] G d 0 0) : ∀ (n : Nat) (v3 : Int32) (v4 : Int32) (v7 : Int32) (d : ya_D), f_X11_most_L97 v1 v2 v5 v6 e170 n v3 v4 v7 d = some rr → ya_E X Y_X11_most (ya_M X (some (.int rr.1), G, rr.2) 0 0) 97 [(0, .ref (X.2.1 + 0)), (1, .int v1), (2, .int v2), (3, .int v3), (4, .int v4), (5, .int v5), (6, .int v6), (7, .int v7)] [] G d 0 0 := by
  intro n
  induction n with
  | zero => intro v3 v4 v7 d h; cases h
  | succ n ih =>
    intro v3 v4 v7 d h
    rw [f_X11_most_L97] at h
    refine ya_iload 7 rfl dX11_most_97 ?_
    refine ya_iload 6 rfl dX11_most_99 ?_
    refine ya_icmp_gt 170 (by decide) dX11_most_101 (fun c => ?_) (fun c => ?_)
    · replace h := ya_itet h c
      refine ya_sub [(0, .ref (X.2.1 + 0)), (1, .int v1), (2, .int v2), (3, .int v3), (4, .int v4), (5, .int v5)] [0, 1, 2, 3, 4, 5] rfl ?_
      exact he170 _ _ _ h
    · replace h := ya_itef h c
      refine ya_iload 7 rfl dX11_most_104 ?_
      refine ya_iload 6 rfl dX11_most_106 ?_
      refine ya_j3_s h (fun v3_164 v4_164 d_164 => ya_E X Y_X11_most (ya_M X (some (.int rr.1), G, rr.2) 0 0) 164 [(0, .ref (X.2.1 + 0)), (1, .int v1), (2, .int v2), (3, .int v3_164), (4, .int v4_164), (5, .int v5), (6, .int v6), (7, .int v7)] [] G d_164 0 0) (fun v3_164 v4_164 d_164 h => ?_) (fun k164 hk164 h => ?_)
      · refine ya_iinc (v7 + 1) rfl 7 rfl [(7, .int (v7 + 1)), (0, .ref (X.2.1 + 0)), (1, .int v1), (2, .int v2), (3, .int v3_164), (4, .int v4_164), (5, .int v5), (6, .int v6)] (by decide) rfl dX11_most_164 ?_
        refine ya_goto 97 (by decide) dX11_most_167 ?_
        refine ya_sub [(0, .ref (X.2.1 + 0)), (1, .int v1), (2, .int v2), (3, .int v3_164), (4, .int v4_164), (5, .int v5), (6, .int v6), (7, .int (v7 + 1))] [1, 2, 3, 4, 5, 6, 7, 0] rfl ?_
        exact ih _ _ _ _ h
      · refine ya_j0_s h (ya_E X Y_X11_most (ya_M X (some (.int rr.1), G, rr.2) 0 0) 134 [(0, .ref (X.2.1 + 0)), (1, .int v1), (2, .int v2), (3, .int v3), (4, .int v4), (5, .int v5), (6, .int v6), (7, .int v7)] [] G d 0 0) (fun h => ?_) (fun k134 hk134 h => ?_)
        · refine ya_aload_n 0 rfl dX11_most_134 ?_
          refine ya_iload_n 1 rfl dX11_most_135 ?_
          refine ya_iload 5 rfl dX11_most_136 ?_
          refine ya_iload 7 rfl dX11_most_138 ?_
          obtain ⟨x140, d140, e140, h⟩ := ya_ob2 h
          refine ya_callVi (S := []) (c_X11_bringAt hG e140) m_X11_bringAt ⟨rfl, rfl⟩ ml_X11_297 rfl ⟨Nat.le_of_ble_eq_true rfl, Nat.le_of_ble_eq_true rfl⟩ (Nat.le_of_ble_eq_true rfl) (hG.lt0 0 (by decide)) (hG.o0 0 rfl) (by decide) rfl rfl ⟨Nat.le_refl _, Nat.le_refl _⟩ dX11_most_140 rfl ?_
          refine ya_istore [(8, .int x140), (0, .ref (X.2.1 + 0)), (1, .int v1), (2, .int v2), (3, .int v3), (4, .int v4), (5, .int v5), (6, .int v6), (7, .int v7)] (by decide) rfl dX11_most_143 ?_
          refine ya_iload 0 rfl dX11_most_145 ?_
          refine ya_iload_n 4 rfl dX11_most_147 ?_
          refine ya_icmp_le 164 (by decide) dX11_most_148 (fun c => ?_) (fun c => ?_)
          · replace h := ya_itet h c
            refine ya_sub [(0, .ref (X.2.1 + 0)), (1, .int v1), (2, .int v2), (3, .int v3), (4, .int v4), (5, .int v5), (6, .int v6), (7, .int v7)] [1, 2, 3, 4, 5, 6, 7, 8] rfl ?_
            exact hk164 _ _ _ h
          · replace h := ya_itef h c
            refine ya_iload 0 rfl dX11_most_151 ?_
            refine ya_istore_n [(3, .int x140), (8, .int x140), (0, .ref (X.2.1 + 0)), (1, .int v1), (2, .int v2), (4, .int v4), (5, .int v5), (6, .int v6), (7, .int v7)] (by decide) rfl dX11_most_153 ?_
            refine ya_bipush 100 (by decide) dX11_most_154 ?_
            refine ya_iload 6 rfl dX11_most_156 ?_
            refine ya_imul dX11_most_158 ?_
            refine ya_iload 8 rfl dX11_most_159 ?_
            refine ya_iadd dX11_most_161 ?_
            refine ya_istore [(4, .int (((100 : Int32) * v5) + v7)), (3, .int x140), (8, .int x140), (0, .ref (X.2.1 + 0)), (1, .int v1), (2, .int v2), (5, .int v5), (6, .int v6), (7, .int v7)] (by decide) rfl dX11_most_162 ?_
            refine ya_sub [(0, .ref (X.2.1 + 0)), (1, .int v1), (2, .int v2), (3, .int x140), (4, .int (((100 : Int32) * v5) + v7)), (5, .int v5), (6, .int v6), (7, .int v7)] [3, 4, 5, 1, 0, 6, 7, 8] rfl ?_
            exact hk164 _ _ _ h
        · refine ya_icmp_eq 134 (by decide) dX11_most_108 (fun c => ?_) (fun c => ?_)
          · replace h := ya_itet h c
            exact hk134  h
          · replace h := ya_itef h c
            refine ya_aload_n 0 rfl dX11_most_111 ?_
            refine ya_iload_n 1 rfl dX11_most_112 ?_
            refine ya_iload 5 rfl dX11_most_113 ?_
            refine ya_iload 7 rfl dX11_most_115 ?_
            refine ya_iconst 1 (by decide) dX11_most_117 ?_
            refine ya_iadd dX11_most_118 ?_
            obtain ⟨x119, e119, h⟩ := ya_ob h
            refine ya_callVi (S := []) (c_X11_wantedFor hG e119) m_X11_wantedFor ⟨rfl, rfl⟩ ml_X11_300 rfl ⟨Nat.le_of_ble_eq_true rfl, Nat.le_of_ble_eq_true rfl⟩ (Nat.le_of_ble_eq_true rfl) (hG.lt0 0 (by decide)) (hG.o0 0 rfl) (by decide) rfl rfl ⟨Nat.le_refl _, Nat.le_refl _⟩ dX11_most_119 rfl ?_
            refine ya_aload_n 0 rfl dX11_most_122 ?_
            refine ya_iload_n 1 rfl dX11_most_123 ?_
            refine ya_iload 5 rfl dX11_most_124 ?_
            refine ya_iload 7 rfl dX11_most_126 ?_
            obtain ⟨x128, e128, h⟩ := ya_ob h
            refine ya_callVi (S := [.int x119]) (c_X11_wantedFor hG e128) m_X11_wantedFor ⟨rfl, rfl⟩ ml_X11_300 rfl ⟨Nat.le_of_ble_eq_true rfl, Nat.le_of_ble_eq_true rfl⟩ (Nat.le_of_ble_eq_true rfl) (hG.lt0 0 (by decide)) (hG.o0 0 rfl) (by decide) rfl rfl ⟨Nat.le_refl _, Nat.le_refl _⟩ dX11_most_128 rfl ?_
            refine ya_icmp_ge 164 (by decide) dX11_most_131 (fun c => ?_) (fun c => ?_)
            · replace h := ya_itet h c
              exact hk164 _ _ _ h
            · replace h := ya_itef h c
              exact hk134  h
set_option maxRecDepth 20000 in
theorem w_X11_most_L50 {X : ya_X} {G : ya_G} {v1 : Int32} {v2 : Int32} {rr : (Int32 × ya_D)} (hG : ya_Bk ya_sh ya_ln G 0) : ∀ (n : Nat) (v3 : Int32) (v4 : Int32) (v5 : Int32) (d : ya_D), f_X11_most_L50 v1 v2 n v3 v4 v5 d = some rr → ya_E X Y_X11_most (ya_M X (some (.int rr.1), G, rr.2) 0 0) 50 [(0, .ref (X.2.1 + 0)), (1, .int v1), (2, .int v2), (3, .int v3), (4, .int v4), (5, .int v5)] [] G d 0 0 := by
  intro n
  induction n with
  | zero => intro v3 v4 v5 d h; cases h
  | succ n ih =>
    intro v3 v4 v5 d h
    rw [f_X11_most_L50] at h
    refine ya_iload 5 rfl dX11_most_50 ?_
    refine ya_aload_n 0 rfl dX11_most_52 ?_
    refine ya_getR fo_X11_26 (hG.o0 0 rfl) (hG.lt0 0 (by decide)) (hG.l0 40 rfl) dX11_most_53 ?_
    refine ya_getI fo_X11_192 (hG.o0 24 rfl) (hG.lt0 24 (by decide)) dX11_most_56 ?_
    refine ya_icmp_ge 176 (by decide) dX11_most_59 (fun c => ?_) (fun c => ?_)
    · replace h := ya_itet h c
      refine ya_iload 4 rfl dX11_most_176 ?_
      cases h
      exact ya_iret rfl rfl rfl rfl rfl (Nat.le_refl _) dX11_most_178
    · replace h := ya_itef h c
      refine ya_bipush 99 (by decide) dX11_most_62 ?_
      refine ya_aload_n 0 rfl dX11_most_64 ?_
      refine ya_getR fo_X11_26 (hG.o0 0 rfl) (hG.lt0 0 (by decide)) (hG.l0 40 rfl) dX11_most_65 ?_
      refine ya_getR fo_X11_100 (hG.o0 24 rfl) (hG.lt0 24 (by decide)) (hG.l0 27 rfl) dX11_most_68 ?_
      refine ya_getR fo_X11_104 (hG.o0 25 rfl) (hG.lt0 25 (by decide)) (hG.l0 24 rfl) dX11_most_71 ?_
      refine ya_iload_n 2 rfl dX11_most_74 ?_
      refine ya_iload 5 rfl dX11_most_75 ?_
      obtain ⟨x77, e77, h⟩ := ya_ob h
      refine ya_callSi (S := [.ref (X.2.1 + 27), .int 99]) (c_X11_cell hG e77) m_X11_cell ⟨rfl, rfl⟩ ml_X11_110 rfl ⟨Nat.le_of_ble_eq_true rfl, Nat.le_of_ble_eq_true rfl⟩ (Nat.le_of_ble_eq_true rfl) ⟨Nat.le_refl _, Nat.le_refl _⟩ dX11_most_77 rfl ?_
      refine ya_iald (hG.s0 27 rfl) (hG.lt0 27 (by decide)) dX11_most_80 h (fun x80 h => ?_)
      refine ya_aload_n 0 rfl dX11_most_81 ?_
      refine ya_getR fo_X11_26 (hG.o0 0 rfl) (hG.lt0 0 (by decide)) (hG.l0 40 rfl) dX11_most_82 ?_
      refine ya_getI fo_X11_284 (hG.o0 24 rfl) (hG.lt0 24 (by decide)) dX11_most_85 ?_
      refine ya_iadd dX11_most_88 ?_
      refine ya_mmin ml_X11_287 wm_min1 wm_min2 wm_min3 (by decide) (Nat.le_of_ble_eq_true rfl) ⟨Nat.le_refl _, Nat.le_refl _⟩ dX11_most_89 ?_
      refine ya_istore [(6, .int (ya_min 99 (x80 + (d.1 24 2)))), (0, .ref (X.2.1 + 0)), (1, .int v1), (2, .int v2), (3, .int v3), (4, .int v4), (5, .int v5)] (by decide) rfl dX11_most_92 ?_
      refine ya_iconst 0 (by decide) dX11_most_94 ?_
      refine ya_istore [(7, .int 0), (6, .int (ya_min 99 (x80 + (d.1 24 2)))), (0, .ref (X.2.1 + 0)), (1, .int v1), (2, .int v2), (3, .int v3), (4, .int v4), (5, .int v5)] (by decide) rfl dX11_most_95 ?_
      refine ya_sub [(0, .ref (X.2.1 + 0)), (1, .int v1), (2, .int v2), (3, .int v3), (4, .int v4), (5, .int v5), (6, .int (ya_min 99 (x80 + (d.1 24 2)))), (7, .int 0)] [2, 3, 4, 5, 6, 7, 1, 0] rfl ?_
      refine w_X11_most_L97 hG (fun v3_170 v4_170 d_170 h => ?_) ya_F _ _ _ _ h
      refine ya_iinc (v5 + 1) rfl 5 rfl [(5, .int (v5 + 1)), (0, .ref (X.2.1 + 0)), (1, .int v1), (2, .int v2), (3, .int v3_170), (4, .int v4_170)] (by decide) rfl dX11_most_170 ?_
      refine ya_goto 50 (by decide) dX11_most_173 ?_
      refine ya_sub [(0, .ref (X.2.1 + 0)), (1, .int v1), (2, .int v2), (3, .int v3_170), (4, .int v4_170), (5, .int (v5 + 1))] [1, 2, 3, 4, 5, 0] rfl ?_
      exact ih _ _ _ _ h
set_option maxRecDepth 20000 in
theorem c_X11_most {X : ya_X} {G : ya_G} {v1 : Int32} {d : ya_D} {rr : (Int32 × ya_D)} (hG : ya_Bk ya_sh ya_ln G 0) (h : f_X11_most v1 d = some rr) : ya_Ct X yX11_most Y_X11_most [.ref (X.2.1 + 0), .int v1] G d (some (.int rr.1), G, rr.2) := by
  refine ya_ct (by decide +kernel) rfl rfl (Nat.le_of_ble_eq_true rfl) ?_
  unfold f_X11_most at h
  show ya_E X Y_X11_most (ya_M X (some (.int rr.1), G, rr.2) 0 0) 0 [(0, .ref (X.2.1 + 0)), (1, .int v1)] [] G d 0 0
  refine ya_aload_n 0 rfl dX11_most_0 ?_
  refine ya_iload_n 1 rfl dX11_most_1 ?_
  obtain ⟨x2, e2, h⟩ := ya_ob h
  refine ya_callVi (S := []) (c_X11_isSeller hG e2) m_X11_isSeller ⟨rfl, rfl⟩ ml_X11_130 rfl ⟨Nat.le_of_ble_eq_true rfl, Nat.le_of_ble_eq_true rfl⟩ (Nat.le_of_ble_eq_true rfl) (hG.lt0 0 (by decide)) (hG.o0 0 rfl) (by decide) rfl rfl ⟨Nat.le_refl _, Nat.le_refl _⟩ dX11_most_2 rfl ?_
  refine ya_ifne 11 (by decide) dX11_most_5 (fun c => ?_) (fun c => ?_)
  · replace h := ya_itef h c
    refine ya_aload_n 0 rfl dX11_most_11 ?_
    refine ya_getR fo_X11_43 (hG.o0 0 rfl) (hG.lt0 0 (by decide)) (hG.l0 77 rfl) dX11_most_12 ?_
    refine ya_aload_n 0 rfl dX11_most_15 ?_
    refine ya_getR fo_X11_26 (hG.o0 0 rfl) (hG.lt0 0 (by decide)) (hG.l0 40 rfl) dX11_most_16 ?_
    refine ya_iload_n 1 rfl dX11_most_19 ?_
    obtain ⟨d20, e20, h⟩ := ya_ob h
    refine ya_callVv (S := []) (c_X5_load hG (bk_0_24 hG) e20) m_X5_load ⟨rfl, rfl⟩ ml_X11_258 rfl ⟨Nat.le_of_ble_eq_true rfl, Nat.le_of_ble_eq_true rfl⟩ (Nat.le_of_ble_eq_true rfl) (hG.lt0 72 (by decide)) (hG.o0 72 rfl) (by decide) rfl rfl ⟨Nat.le_refl _, Nat.le_refl _⟩ dX11_most_20 rfl ?_
    refine ya_aload_n 0 rfl dX11_most_23 ?_
    refine ya_getR fo_X11_26 (hG.o0 0 rfl) (hG.lt0 0 (by decide)) (hG.l0 40 rfl) dX11_most_24 ?_
    refine ya_getR fo_X11_181 (hG.o0 24 rfl) (hG.lt0 24 (by decide)) (hG.l0 32 rfl) dX11_most_27 ?_
    refine ya_getR fo_X11_240 (hG.o0 30 rfl) (hG.lt0 30 (by decide)) (hG.l0 28 rfl) dX11_most_30 ?_
    refine ya_iload_n 1 rfl dX11_most_33 ?_
    refine ya_iald (hG.s0 31 rfl) (hG.lt0 31 (by decide)) dX11_most_34 h (fun x34 h => ?_)
    refine ya_istore_n [(2, .int x34), (0, .ref (X.2.1 + 0)), (1, .int v1)] (by decide) rfl dX11_most_35 ?_
    refine ya_aload_n 1 rfl dX11_most_36 ?_
    refine ya_getR fo_X11_43 (hG.o0 0 rfl) (hG.lt0 0 (by decide)) (hG.l0 77 rfl) dX11_most_37 ?_
    obtain ⟨x40, d40, e40, h⟩ := ya_ob2 h
    refine ya_callVi (S := []) (c_X5_bring hG e40) m_X5_bring ⟨rfl, rfl⟩ ml_X11_261 rfl ⟨Nat.le_of_ble_eq_true rfl, Nat.le_of_ble_eq_true rfl⟩ (Nat.le_of_ble_eq_true rfl) (hG.lt0 72 (by decide)) (hG.o0 72 rfl) (by decide) rfl rfl ⟨Nat.le_refl _, Nat.le_refl _⟩ dX11_most_40 rfl ?_
    refine ya_istore_n [(3, .int x40), (2, .int x34), (0, .ref (X.2.1 + 0)), (1, .int v1)] (by decide) rfl dX11_most_43 ?_
    refine ya_iconst (-1) (by decide) dX11_most_44 ?_
    refine ya_istore [(4, .int (-1)), (3, .int x40), (2, .int x34), (0, .ref (X.2.1 + 0)), (1, .int v1)] (by decide) rfl dX11_most_45 ?_
    refine ya_iconst 0 (by decide) dX11_most_47 ?_
    refine ya_istore [(5, .int 0), (4, .int (-1)), (3, .int x40), (2, .int x34), (0, .ref (X.2.1 + 0)), (1, .int v1)] (by decide) rfl dX11_most_48 ?_
    refine ya_sub [(0, .ref (X.2.1 + 0)), (1, .int v1), (2, .int x34), (3, .int x40), (4, .int (-1)), (5, .int 0)] [4, 5, 3, 2, 1, 0] rfl ?_
    refine w_X11_most_L50 hG  ya_F _ _ _ _ h
  · replace h := ya_itet h c
    refine ya_bipush (-2) (by decide) dX11_most_8 ?_
    cases h
    exact ya_iret rfl rfl rfl rfl rfl (Nat.le_refl _) dX11_most_10
set_option maxRecDepth 20000 in
theorem c_X11_leap {X : ya_X} {G : ya_G} {v1 : Int32} {v2 : Int32} {v3 : Int32} {d : ya_D} {rr : Int32} (hG : ya_Bk ya_sh ya_ln G 0) (h : f_X11_leap v1 v2 v3 d = some rr) : ya_Ct X yX11_leap Y_X11_leap [.ref (X.2.1 + 0), .int v1, .int v2, .int v3] G d (some (.int rr), G, d) := by
  refine ya_ct (by decide +kernel) rfl rfl (Nat.le_of_ble_eq_true rfl) ?_
  unfold f_X11_leap at h
  show ya_E X Y_X11_leap (ya_M X (some (.int rr), G, d) 0 0) 0 [(0, .ref (X.2.1 + 0)), (1, .int v1), (2, .int v2), (3, .int v3)] [] G d 0 0
  refine ya_aload_n 0 rfl dX11_leap_0 ?_
  refine ya_iload_n 1 rfl dX11_leap_1 ?_
  refine ya_iload_n 2 rfl dX11_leap_2 ?_
  obtain ⟨x3, e3, h⟩ := ya_ob h
  refine ya_callVi (S := []) (c_X11_isThingDay hG e3) m_X11_isThingDay ⟨rfl, rfl⟩ ml_X11_96 rfl ⟨Nat.le_of_ble_eq_true rfl, Nat.le_of_ble_eq_true rfl⟩ (Nat.le_of_ble_eq_true rfl) (hG.lt0 0 (by decide)) (hG.o0 0 rfl) (by decide) rfl rfl ⟨Nat.le_refl _, Nat.le_refl _⟩ dX11_leap_3 rfl ?_
  refine ya_ifne 12 (by decide) dX11_leap_6 (fun c => ?_) (fun c => ?_)
  · replace h := ya_itef h c
    refine ya_aload_n 0 rfl dX11_leap_12 ?_
    refine ya_getR fo_X11_26 (hG.o0 0 rfl) (hG.lt0 0 (by decide)) (hG.l0 40 rfl) dX11_leap_13 ?_
    refine ya_getR fo_X11_100 (hG.o0 24 rfl) (hG.lt0 24 (by decide)) (hG.l0 27 rfl) dX11_leap_16 ?_
    refine ya_getR fo_X11_104 (hG.o0 25 rfl) (hG.lt0 25 (by decide)) (hG.l0 24 rfl) dX11_leap_19 ?_
    refine ya_iload_n 1 rfl dX11_leap_22 ?_
    refine ya_iload_n 2 rfl dX11_leap_23 ?_
    obtain ⟨x24, e24, h⟩ := ya_ob h
    refine ya_callSi (S := [.ref (X.2.1 + 27)]) (c_X11_cell hG e24) m_X11_cell ⟨rfl, rfl⟩ ml_X11_110 rfl ⟨Nat.le_of_ble_eq_true rfl, Nat.le_of_ble_eq_true rfl⟩ (Nat.le_of_ble_eq_true rfl) ⟨Nat.le_refl _, Nat.le_refl _⟩ dX11_leap_24 rfl ?_
    refine ya_iald (hG.s0 27 rfl) (hG.lt0 27 (by decide)) dX11_leap_27 h (fun x27 h => ?_)
    refine ya_istore [(4, .int x27), (0, .ref (X.2.1 + 0)), (1, .int v1), (2, .int v2), (3, .int v3)] (by decide) rfl dX11_leap_28 ?_
    refine ya_aload_n 1 rfl dX11_leap_30 ?_
    refine ya_getR fo_X11_26 (hG.o0 0 rfl) (hG.lt0 0 (by decide)) (hG.l0 40 rfl) dX11_leap_31 ?_
    refine ya_getR fo_X11_100 (hG.o0 24 rfl) (hG.lt0 24 (by decide)) (hG.l0 27 rfl) dX11_leap_34 ?_
    refine ya_getR fo_X11_104 (hG.o0 25 rfl) (hG.lt0 25 (by decide)) (hG.l0 24 rfl) dX11_leap_37 ?_
    refine ya_iload_n 2 rfl dX11_leap_40 ?_
    refine ya_iload_n 3 rfl dX11_leap_41 ?_
    refine ya_iconst 1 (by decide) dX11_leap_42 ?_
    refine ya_iadd dX11_leap_43 ?_
    refine ya_aload_n 1 rfl dX11_leap_44 ?_
    refine ya_getR fo_X11_26 (hG.o0 0 rfl) (hG.lt0 0 (by decide)) (hG.l0 40 rfl) dX11_leap_45 ?_
    refine ya_getI fo_X11_192 (hG.o0 24 rfl) (hG.lt0 24 (by decide)) dX11_leap_48 ?_
    refine ya_j1_s h (fun t0_61 => ya_E X Y_X11_leap (ya_M X (some (.int rr), G, d) 0 0) 61 [(3, .int v3), (4, .int x27)] [.int t0_61, .int v1, .ref (X.2.1 + 27)] G d 0 0) (fun t0_61 h => ?_) (fun k61 hk61 h => ?_)
    · obtain ⟨x61, e61, h⟩ := ya_ob h
      refine ya_callSi (S := [.ref (X.2.1 + 27)]) (c_X11_cell hG e61) m_X11_cell ⟨rfl, rfl⟩ ml_X11_110 rfl ⟨Nat.le_of_ble_eq_true rfl, Nat.le_of_ble_eq_true rfl⟩ (Nat.le_of_ble_eq_true rfl) ⟨Nat.le_refl _, Nat.le_refl _⟩ dX11_leap_61 rfl ?_
      refine ya_iald (hG.s0 27 rfl) (hG.lt0 27 (by decide)) dX11_leap_64 h (fun x64 h => ?_)
      refine ya_istore [(5, .int x64), (3, .int v3), (4, .int x27)] (by decide) rfl dX11_leap_65 ?_
      refine ya_iload_n 1 rfl dX11_leap_67 ?_
      rcases ya_ite h with ⟨c68_0, h⟩ | ⟨n68_0, h⟩
      · refine ya_tswIn 0 96 c68_0 (by decide) (by decide) rfl (by decide) dX11_leap_68 ?_
        refine ya_iload 2 rfl dX11_leap_96 ?_
        cases h
        exact ya_iret rfl rfl rfl rfl rfl (Nat.le_refl _) dX11_leap_98
      · rcases ya_ite h with ⟨c68_1, h⟩ | ⟨n68_1, h⟩
        · refine ya_tswIn 1 99 c68_1 (by decide) (by decide) rfl (by decide) dX11_leap_68 ?_
          refine ya_iload 0 rfl dX11_leap_99 ?_
          cases h
          exact ya_iret rfl rfl rfl rfl rfl (Nat.le_refl _) dX11_leap_101
        · rcases ya_ite h with ⟨c68_2, h⟩ | ⟨n68_2, h⟩
          · refine ya_tswIn 2 102 c68_2 (by decide) (by decide) rfl (by decide) dX11_leap_68 ?_
            refine ya_iload 2 rfl dX11_leap_102 ?_
            refine ya_iload 0 rfl dX11_leap_104 ?_
            refine ya_iadd dX11_leap_106 ?_
            refine ya_iconst 2 (by decide) dX11_leap_107 ?_
            refine ya_idiv (by decide) dX11_leap_108 ?_
            cases h
            exact ya_iret rfl rfl rfl rfl rfl (Nat.le_refl _) dX11_leap_109
          · refine ya_tswOut 110 (ya_out [0, 1, 2] (List.forall_mem_cons.mpr ⟨n68_0, (List.forall_mem_cons.mpr ⟨n68_1, (List.forall_mem_cons.mpr ⟨n68_2, (fun _ hq => absurd hq List.not_mem_nil)⟩)⟩)⟩) (by decide)) (by decide) dX11_leap_68 ?_
            refine ya_bipush (-2) (by decide) dX11_leap_110 ?_
            cases h
            exact ya_iret rfl rfl rfl rfl rfl (Nat.le_refl _) dX11_leap_112
    · refine ya_icmp_ge 60 (by decide) dX11_leap_51 (fun c => ?_) (fun c => ?_)
      · replace h := ya_itet h c
        refine ya_iconst 0 (by decide) dX11_leap_60 ?_
        refine ya_sub [(3, .int v3), (4, .int x27)] [4, 0] rfl ?_
        exact hk61 _ h
      · replace h := ya_itef h c
        refine ya_iload_n 3 rfl dX11_leap_54 ?_
        refine ya_iconst 1 (by decide) dX11_leap_55 ?_
        refine ya_iadd dX11_leap_56 ?_
        refine ya_goto 61 (by decide) dX11_leap_57 ?_
        refine ya_sub [(3, .int v3), (4, .int x27)] [4, 0] rfl ?_
        exact hk61 _ h
  · replace h := ya_itet h c
    refine ya_bipush (-2) (by decide) dX11_leap_9 ?_
    cases h
    exact ya_iret rfl rfl rfl rfl rfl (Nat.le_refl _) dX11_leap_11
set_option maxRecDepth 20000 in
theorem c_X11_passingGain {X : ya_X} {G : ya_G} {v1 : Int32} {v2 : Int32} {v3 : Int32} {v4 : Int32} {d : ya_D} {rr : Int32} (hG : ya_Bk ya_sh ya_ln G 0) (h : f_X11_passingGain v1 v2 v3 v4 d = some rr) : ya_Ct X yX11_passingGain Y_X11_passingGain [.ref (X.2.1 + 0), .int v1, .int v2, .int v3, .int v4] G d (some (.int rr), G, d) := by
  refine ya_ct (by decide +kernel) rfl rfl (Nat.le_of_ble_eq_true rfl) ?_
  unfold f_X11_passingGain at h
  show ya_E X Y_X11_passingGain (ya_M X (some (.int rr), G, d) 0 0) 0 [(0, .ref (X.2.1 + 0)), (1, .int v1), (2, .int v2), (3, .int v3), (4, .int v4)] [] G d 0 0
  refine ya_aload_n 0 rfl dX11_passingGain_0 ?_
  refine ya_getR fo_X11_26 (hG.o0 0 rfl) (hG.lt0 0 (by decide)) (hG.l0 40 rfl) dX11_passingGain_1 ?_
  refine ya_getR fo_X11_100 (hG.o0 24 rfl) (hG.lt0 24 (by decide)) (hG.l0 27 rfl) dX11_passingGain_4 ?_
  refine ya_getR fo_X11_104 (hG.o0 25 rfl) (hG.lt0 25 (by decide)) (hG.l0 24 rfl) dX11_passingGain_7 ?_
  refine ya_astore [(5, .ref (X.2.1 + 27)), (0, .ref (X.2.1 + 0)), (1, .int v1), (2, .int v2), (3, .int v3), (4, .int v4)] (by decide) rfl dX11_passingGain_10 ?_
  refine ya_aload_n 1 rfl dX11_passingGain_12 ?_
  refine ya_getR fo_X11_26 (hG.o0 0 rfl) (hG.lt0 0 (by decide)) (hG.l0 40 rfl) dX11_passingGain_13 ?_
  refine ya_getR fo_X11_100 (hG.o0 24 rfl) (hG.lt0 24 (by decide)) (hG.l0 27 rfl) dX11_passingGain_16 ?_
  refine ya_getR fo_X11_114 (hG.o0 25 rfl) (hG.lt0 25 (by decide)) (hG.l0 25 rfl) dX11_passingGain_19 ?_
  refine ya_astore [(6, .ref (X.2.1 + 28)), (5, .ref (X.2.1 + 27)), (0, .ref (X.2.1 + 0)), (1, .int v1), (2, .int v2), (3, .int v3), (4, .int v4)] (by decide) rfl dX11_passingGain_22 ?_
  refine ya_iload_n 4 rfl dX11_passingGain_24 ?_
  refine ya_ifne 49 (by decide) dX11_passingGain_25 (fun c => ?_) (fun c => ?_)
  · replace h := ya_itef h c
    refine ya_aload 1 rfl dX11_passingGain_49 ?_
    refine ya_iload_n 3 rfl dX11_passingGain_51 ?_
    refine ya_iload 6 rfl dX11_passingGain_52 ?_
    obtain ⟨x54, e54, h⟩ := ya_ob h
    refine ya_callSi (S := [.ref (X.2.1 + 27)]) (c_X11_cell hG e54) m_X11_cell ⟨rfl, rfl⟩ ml_X11_110 rfl ⟨Nat.le_of_ble_eq_true rfl, Nat.le_of_ble_eq_true rfl⟩ (Nat.le_of_ble_eq_true rfl) ⟨Nat.le_refl _, Nat.le_refl _⟩ dX11_passingGain_54 rfl ?_
    refine ya_iald (hG.s0 27 rfl) (hG.lt0 27 (by decide)) dX11_passingGain_57 h (fun x57 h => ?_)
    refine ya_aload 0 rfl dX11_passingGain_58 ?_
    refine ya_iload_n 3 rfl dX11_passingGain_60 ?_
    refine ya_iload_n 5 rfl dX11_passingGain_61 ?_
    obtain ⟨x62, e62, h⟩ := ya_ob h
    refine ya_callSi (S := [.ref (X.2.1 + 28), .int x57]) (c_X11_cell hG e62) m_X11_cell ⟨rfl, rfl⟩ ml_X11_110 rfl ⟨Nat.le_of_ble_eq_true rfl, Nat.le_of_ble_eq_true rfl⟩ (Nat.le_of_ble_eq_true rfl) ⟨Nat.le_refl _, Nat.le_refl _⟩ dX11_passingGain_62 rfl ?_
    refine ya_iald (hG.s0 28 rfl) (hG.lt0 28 (by decide)) dX11_passingGain_65 h (fun x65 h => ?_)
    refine ya_isub dX11_passingGain_66 ?_
    cases h
    exact ya_iret rfl rfl rfl rfl rfl (Nat.le_refl _) dX11_passingGain_67
  · replace h := ya_itet h c
    refine ya_aload 0 rfl dX11_passingGain_28 ?_
    refine ya_iload_n 3 rfl dX11_passingGain_30 ?_
    refine ya_iload 6 rfl dX11_passingGain_31 ?_
    obtain ⟨x33, e33, h⟩ := ya_ob h
    refine ya_callSi (S := [.ref (X.2.1 + 28)]) (c_X11_cell hG e33) m_X11_cell ⟨rfl, rfl⟩ ml_X11_110 rfl ⟨Nat.le_of_ble_eq_true rfl, Nat.le_of_ble_eq_true rfl⟩ (Nat.le_of_ble_eq_true rfl) ⟨Nat.le_refl _, Nat.le_refl _⟩ dX11_passingGain_33 rfl ?_
    refine ya_iald (hG.s0 28 rfl) (hG.lt0 28 (by decide)) dX11_passingGain_36 h (fun x36 h => ?_)
    refine ya_aload 1 rfl dX11_passingGain_37 ?_
    refine ya_iload_n 3 rfl dX11_passingGain_39 ?_
    refine ya_iload_n 5 rfl dX11_passingGain_40 ?_
    obtain ⟨x41, e41, h⟩ := ya_ob h
    refine ya_callSi (S := [.ref (X.2.1 + 27), .int x36]) (c_X11_cell hG e41) m_X11_cell ⟨rfl, rfl⟩ ml_X11_110 rfl ⟨Nat.le_of_ble_eq_true rfl, Nat.le_of_ble_eq_true rfl⟩ (Nat.le_of_ble_eq_true rfl) ⟨Nat.le_refl _, Nat.le_refl _⟩ dX11_passingGain_41 rfl ?_
    refine ya_iald (hG.s0 27 rfl) (hG.lt0 27 (by decide)) dX11_passingGain_44 h (fun x44 h => ?_)
    refine ya_isub dX11_passingGain_45 ?_
    refine ya_goto 67 (by decide) dX11_passingGain_46 ?_
    cases h
    exact ya_iret rfl rfl rfl rfl rfl (Nat.le_refl _) dX11_passingGain_67
set_option maxRecDepth 20000 in
theorem c_X11_passingPart {X : ya_X} {G : ya_G} {v0 : Int32} {v1 : Int32} {d : ya_D} {rr : Int32} (hG : ya_Bk ya_sh ya_ln G 0) (h : f_X11_passingPart v0 v1 = some rr) : ya_Ct X yX11_passingPart Y_X11_passingPart [.int v0, .int v1] G d (some (.int rr), G, d) := by
  refine ya_ct (by decide +kernel) rfl rfl (Nat.le_of_ble_eq_true rfl) ?_
  unfold f_X11_passingPart at h
  show ya_E X Y_X11_passingPart (ya_M X (some (.int rr), G, d) 0 0) 0 [(0, .int v0), (1, .int v1)] [] G d 0 0
  refine ya_iload_n 1 rfl dX11_passingPart_0 ?_
  rcases ya_ite h with ⟨c1_0, h⟩ | ⟨n1_0, h⟩
  · refine ya_lsw 28 (by decide) (by first | (rw [c1_0]; done) | (rw [c1_0]; rfl)) (by decide) dX11_passingPart_1 ?_
    refine ya_iload_n 0 rfl dX11_passingPart_28 ?_
    refine ya_bipush 20 (by decide) dX11_passingPart_29 ?_
    refine ya_idiv (by decide) dX11_passingPart_31 ?_
    refine ya_bipush 20 (by decide) dX11_passingPart_32 ?_
    refine ya_irem (by decide) dX11_passingPart_34 ?_
    cases h
    exact ya_iret rfl rfl rfl rfl rfl (Nat.le_refl _) dX11_passingPart_35
  · rcases ya_ite h with ⟨c1_1, h⟩ | ⟨n1_1, h⟩
    · refine ya_lsw 36 (by decide) (by first | (rw [c1_1]; done) | (rw [c1_1]; rfl)) (by decide) dX11_passingPart_1 ?_
      refine ya_iload_n 0 rfl dX11_passingPart_36 ?_
      refine ya_bipush 20 (by decide) dX11_passingPart_37 ?_
      refine ya_irem (by decide) dX11_passingPart_39 ?_
      cases h
      exact ya_iret rfl rfl rfl rfl rfl (Nat.le_refl _) dX11_passingPart_40
    · refine ya_lsw 41 (by decide) (ya_lsOut _ (List.forall_mem_cons.mpr ⟨fun ee => n1_0 (Int32.toInt_inj.mp (ee.trans (by decide))), (List.forall_mem_cons.mpr ⟨fun ee => n1_1 (Int32.toInt_inj.mp (ee.trans (by decide))), (fun _ hq => absurd hq List.not_mem_nil)⟩)⟩)) (by decide) dX11_passingPart_1 ?_
      refine ya_iload_n 0 rfl dX11_passingPart_41 ?_
      refine ya_sipush 400 (by decide) dX11_passingPart_42 ?_
      refine ya_idiv (by decide) dX11_passingPart_45 ?_
      cases h
      exact ya_iret rfl rfl rfl rfl rfl (Nat.le_refl _) dX11_passingPart_46
set_option maxRecDepth 20000 in
theorem w_X11_passing_L82 {X : ya_X} {G : ya_G} {v1 : Int32} {v2 : Int32} {v5 : Int32} {v6 : Int32} {v7 : Int32} {d : ya_D} {rr : Int32} {e133 : Int32 → Int32 → Option Int32} (hG : ya_Bk ya_sh ya_ln G 0) (he133 : ∀ (v3 : Int32) (v4 : Int32), e133 v3 v4 = some rr → ya_E X Y_X11_passing (ya_M X (some (.int rr), G, d) 0 0) 133 [(0, .ref (X.2.1 + 0)), (1, .int v1), (2, .int v2), (3, .int v3), (4, .int v4), (5, .int v5), (6, .int v6)] [] G d 0 0) : ∀ (n : Nat) (v3 : Int32) (v4 : Int32) (v8 : Int32), f_X11_passing_L82 v1 v2 v5 v6 v7 d e133 n v3 v4 v8 = some rr → ya_E X Y_X11_passing (ya_M X (some (.int rr), G, d) 0 0) 82 [(0, .ref (X.2.1 + 0)), (1, .int v1), (2, .int v2), (3, .int v3), (4, .int v4), (5, .int v5), (6, .int v6), (7, .int v7), (8, .int v8)] [] G d 0 0 := by
  intro n
  induction n with
  | zero => intro v3 v4 v8 h; cases h
  | succ n ih =>
    intro v3 v4 v8 h
    rw [f_X11_passing_L82] at h
    refine ya_iload 8 rfl dX11_passing_82 ?_
    refine ya_iload 7 rfl dX11_passing_84 ?_
    refine ya_icmp_gt 133 (by decide) dX11_passing_86 (fun c => ?_) (fun c => ?_)
    · replace h := ya_itet h c
      refine ya_sub [(0, .ref (X.2.1 + 0)), (1, .int v1), (2, .int v2), (3, .int v3), (4, .int v4), (5, .int v5), (6, .int v6)] [0, 1, 2, 3, 4, 5, 6] rfl ?_
      exact he133 _ _ h
    · replace h := ya_itef h c
      refine ya_aload_n 0 rfl dX11_passing_89 ?_
      refine ya_iload_n 1 rfl dX11_passing_90 ?_
      refine ya_iload 5 rfl dX11_passing_91 ?_
      refine ya_iload 6 rfl dX11_passing_93 ?_
      refine ya_iload 8 rfl dX11_passing_95 ?_
      obtain ⟨x97, e97, h⟩ := ya_ob h
      refine ya_callVi (S := []) (c_X11_passingGain hG e97) m_X11_passingGain ⟨rfl, rfl⟩ ml_X11_308 rfl ⟨Nat.le_of_ble_eq_true rfl, Nat.le_of_ble_eq_true rfl⟩ (Nat.le_of_ble_eq_true rfl) (hG.lt0 0 (by decide)) (hG.o0 0 rfl) (by decide) rfl rfl ⟨Nat.le_refl _, Nat.le_refl _⟩ dX11_passing_97 rfl ?_
      refine ya_istore [(9, .int x97), (0, .ref (X.2.1 + 0)), (1, .int v1), (2, .int v2), (3, .int v3), (4, .int v4), (5, .int v5), (6, .int v6), (7, .int v7), (8, .int v8)] (by decide) rfl dX11_passing_100 ?_
      refine ya_iload 0 rfl dX11_passing_102 ?_
      refine ya_iload_n 4 rfl dX11_passing_104 ?_
      refine ya_j2_s h (fun v3_127 v4_127 => ya_E X Y_X11_passing (ya_M X (some (.int rr), G, d) 0 0) 127 [(0, .ref (X.2.1 + 0)), (1, .int v1), (2, .int v2), (3, .int v3_127), (4, .int v4_127), (5, .int v5), (6, .int v6), (7, .int v7), (8, .int v8)] [] G d 0 0) (fun v3_127 v4_127 h => ?_) (fun k127 hk127 h => ?_)
      · refine ya_iinc (v8 + 1) rfl 8 rfl [(8, .int (v8 + 1)), (0, .ref (X.2.1 + 0)), (1, .int v1), (2, .int v2), (3, .int v3_127), (4, .int v4_127), (5, .int v5), (6, .int v6), (7, .int v7)] (by decide) rfl dX11_passing_127 ?_
        refine ya_goto 82 (by decide) dX11_passing_130 ?_
        refine ya_sub [(0, .ref (X.2.1 + 0)), (1, .int v1), (2, .int v2), (3, .int v3_127), (4, .int v4_127), (5, .int v5), (6, .int v6), (7, .int v7), (8, .int (v8 + 1))] [1, 2, 3, 4, 5, 6, 7, 8, 0] rfl ?_
        exact ih _ _ _ h
      · refine ya_icmp_le 127 (by decide) dX11_passing_105 (fun c => ?_) (fun c => ?_)
        · replace h := ya_itet h c
          refine ya_sub [(0, .ref (X.2.1 + 0)), (1, .int v1), (2, .int v2), (3, .int v3), (4, .int v4), (5, .int v5), (6, .int v6), (7, .int v7), (8, .int v8)] [1, 2, 3, 4, 5, 6, 7, 8, 9] rfl ?_
          exact hk127 _ _ h
        · replace h := ya_itef h c
          refine ya_iload 0 rfl dX11_passing_108 ?_
          refine ya_istore_n [(3, .int x97), (9, .int x97), (0, .ref (X.2.1 + 0)), (1, .int v1), (2, .int v2), (4, .int v4), (5, .int v5), (6, .int v6), (7, .int v7), (8, .int v8)] (by decide) rfl dX11_passing_110 ?_
          refine ya_iload 6 rfl dX11_passing_111 ?_
          refine ya_bipush 20 (by decide) dX11_passing_113 ?_
          refine ya_imul dX11_passing_115 ?_
          refine ya_iload 7 rfl dX11_passing_116 ?_
          refine ya_iadd dX11_passing_118 ?_
          refine ya_bipush 20 (by decide) dX11_passing_119 ?_
          refine ya_imul dX11_passing_121 ?_
          refine ya_iload 9 rfl dX11_passing_122 ?_
          refine ya_iadd dX11_passing_124 ?_
          refine ya_istore [(4, .int ((((v5 * 20) + v6) * 20) + v8)), (3, .int x97), (9, .int x97), (0, .ref (X.2.1 + 0)), (1, .int v1), (2, .int v2), (5, .int v5), (6, .int v6), (7, .int v7), (8, .int v8)] (by decide) rfl dX11_passing_125 ?_
          refine ya_sub [(0, .ref (X.2.1 + 0)), (1, .int v1), (2, .int v2), (3, .int x97), (4, .int ((((v5 * 20) + v6) * 20) + v8)), (5, .int v5), (6, .int v6), (7, .int v7), (8, .int v8)] [3, 4, 5, 1, 0, 6, 7, 8, 9] rfl ?_
          exact hk127 _ _ h
set_option maxRecDepth 20000 in
theorem w_X11_passing_L37 {X : ya_X} {G : ya_G} {v1 : Int32} {v2 : Int32} {v5 : Int32} {d : ya_D} {rr : Int32} {e139 : Int32 → Int32 → Option Int32} (hG : ya_Bk ya_sh ya_ln G 0) (he139 : ∀ (v3 : Int32) (v4 : Int32), e139 v3 v4 = some rr → ya_E X Y_X11_passing (ya_M X (some (.int rr), G, d) 0 0) 139 [(0, .ref (X.2.1 + 0)), (1, .int v1), (2, .int v2), (3, .int v3), (4, .int v4), (5, .int v5)] [] G d 0 0) : ∀ (n : Nat) (v3 : Int32) (v4 : Int32) (v6 : Int32), f_X11_passing_L37 v1 v2 v5 d e139 n v3 v4 v6 = some rr → ya_E X Y_X11_passing (ya_M X (some (.int rr), G, d) 0 0) 37 [(0, .ref (X.2.1 + 0)), (1, .int v1), (2, .int v2), (3, .int v3), (4, .int v4), (5, .int v5), (6, .int v6)] [] G d 0 0 := by
  intro n
  induction n with
  | zero => intro v3 v4 v6 h; cases h
  | succ n ih =>
    intro v3 v4 v6 h
    rw [f_X11_passing_L37] at h
    refine ya_iload 6 rfl dX11_passing_37 ?_
    refine ya_aload_n 0 rfl dX11_passing_39 ?_
    refine ya_getR fo_X11_26 (hG.o0 0 rfl) (hG.lt0 0 (by decide)) (hG.l0 40 rfl) dX11_passing_40 ?_
    refine ya_getI fo_X11_192 (hG.o0 24 rfl) (hG.lt0 24 (by decide)) dX11_passing_43 ?_
    refine ya_icmp_ge 139 (by decide) dX11_passing_46 (fun c => ?_) (fun c => ?_)
    · replace h := ya_itet h c
      refine ya_sub [(0, .ref (X.2.1 + 0)), (1, .int v1), (2, .int v2), (3, .int v3), (4, .int v4), (5, .int v5)] [0, 1, 2, 3, 4, 5] rfl ?_
      exact he139 _ _ h
    · replace h := ya_itef h c
      refine ya_aload_n 0 rfl dX11_passing_49 ?_
      refine ya_getR fo_X11_26 (hG.o0 0 rfl) (hG.lt0 0 (by decide)) (hG.l0 40 rfl) dX11_passing_50 ?_
      refine ya_getI fo_X11_192 (hG.o0 24 rfl) (hG.lt0 24 (by decide)) dX11_passing_53 ?_
      refine ya_iconst 1 (by decide) dX11_passing_56 ?_
      refine ya_isub dX11_passing_57 ?_
      refine ya_iload 6 rfl dX11_passing_58 ?_
      refine ya_aload_n 0 rfl dX11_passing_60 ?_
      refine ya_getR fo_X11_26 (hG.o0 0 rfl) (hG.lt0 0 (by decide)) (hG.l0 40 rfl) dX11_passing_61 ?_
      refine ya_getR fo_X11_100 (hG.o0 24 rfl) (hG.lt0 24 (by decide)) (hG.l0 27 rfl) dX11_passing_64 ?_
      refine ya_getR fo_X11_306 (hG.o0 25 rfl) (hG.lt0 25 (by decide)) (hG.l0 23 rfl) dX11_passing_67 ?_
      refine ya_iload_n 1 rfl dX11_passing_70 ?_
      refine ya_iald (hG.s0 26 rfl) (hG.lt0 26 (by decide)) dX11_passing_71 h (fun x71 h => ?_)
      refine ya_iadd dX11_passing_72 ?_
      refine ya_mmin ml_X11_287 wm_min1 wm_min2 wm_min3 (by decide) (Nat.le_of_ble_eq_true rfl) ⟨Nat.le_refl _, Nat.le_refl _⟩ dX11_passing_73 ?_
      refine ya_istore [(7, .int (ya_min ((d.1 24 1) - 1) (v6 + x71))), (0, .ref (X.2.1 + 0)), (1, .int v1), (2, .int v2), (3, .int v3), (4, .int v4), (5, .int v5), (6, .int v6)] (by decide) rfl dX11_passing_76 ?_
      refine ya_iload 7 rfl dX11_passing_78 ?_
      refine ya_istore [(8, .int v6), (7, .int (ya_min ((d.1 24 1) - 1) (v6 + x71))), (0, .ref (X.2.1 + 0)), (1, .int v1), (2, .int v2), (3, .int v3), (4, .int v4), (5, .int v5), (6, .int v6)] (by decide) rfl dX11_passing_80 ?_
      refine ya_sub [(0, .ref (X.2.1 + 0)), (1, .int v1), (2, .int v2), (3, .int v3), (4, .int v4), (5, .int v5), (6, .int v6), (7, .int (ya_min ((d.1 24 1) - 1) (v6 + x71))), (8, .int v6)] [2, 3, 4, 5, 6, 7, 8, 1, 0] rfl ?_
      refine w_X11_passing_L82 hG (fun v3_133 v4_133 h => ?_) ya_F _ _ _ h
      refine ya_iinc (v6 + 1) rfl 6 rfl [(6, .int (v6 + 1)), (0, .ref (X.2.1 + 0)), (1, .int v1), (2, .int v2), (3, .int v3_133), (4, .int v4_133), (5, .int v5)] (by decide) rfl dX11_passing_133 ?_
      refine ya_goto 37 (by decide) dX11_passing_136 ?_
      refine ya_sub [(0, .ref (X.2.1 + 0)), (1, .int v1), (2, .int v2), (3, .int v3_133), (4, .int v4_133), (5, .int v5), (6, .int (v6 + 1))] [1, 2, 3, 4, 5, 6, 0] rfl ?_
      exact ih _ _ _ h
set_option maxRecDepth 20000 in
theorem w_X11_passing_L28 {X : ya_X} {G : ya_G} {v1 : Int32} {v2 : Int32} {d : ya_D} {rr : Int32} {e145 : Int32 → Int32 → Option Int32} (hG : ya_Bk ya_sh ya_ln G 0) (he145 : ∀ (v3 : Int32) (v4 : Int32), e145 v3 v4 = some rr → ya_E X Y_X11_passing (ya_M X (some (.int rr), G, d) 0 0) 145 [(2, .int v2), (3, .int v3), (4, .int v4)] [] G d 0 0) : ∀ (n : Nat) (v3 : Int32) (v4 : Int32) (v5 : Int32), f_X11_passing_L28 v1 v2 d e145 n v3 v4 v5 = some rr → ya_E X Y_X11_passing (ya_M X (some (.int rr), G, d) 0 0) 28 [(0, .ref (X.2.1 + 0)), (1, .int v1), (2, .int v2), (3, .int v3), (4, .int v4), (5, .int v5)] [] G d 0 0 := by
  intro n
  induction n with
  | zero => intro v3 v4 v5 h; cases h
  | succ n ih =>
    intro v3 v4 v5 h
    rw [f_X11_passing_L28] at h
    refine ya_iload 5 rfl dX11_passing_28 ?_
    refine ya_iconst 1 (by decide) dX11_passing_30 ?_
    refine ya_icmp_gt 145 (by decide) dX11_passing_31 (fun c => ?_) (fun c => ?_)
    · replace h := ya_itet h c
      refine ya_sub [(2, .int v2), (3, .int v3), (4, .int v4)] [2, 3, 4] rfl ?_
      exact he145 _ _ h
    · replace h := ya_itef h c
      refine ya_iconst 0 (by decide) dX11_passing_34 ?_
      refine ya_istore [(6, .int 0), (0, .ref (X.2.1 + 0)), (1, .int v1), (2, .int v2), (3, .int v3), (4, .int v4), (5, .int v5)] (by decide) rfl dX11_passing_35 ?_
      refine ya_sub [(0, .ref (X.2.1 + 0)), (1, .int v1), (2, .int v2), (3, .int v3), (4, .int v4), (5, .int v5), (6, .int 0)] [1, 2, 3, 4, 5, 6, 0] rfl ?_
      refine w_X11_passing_L37 hG (fun v3_139 v4_139 h => ?_) ya_F _ _ _ h
      refine ya_iinc (v5 + 1) rfl 5 rfl [(5, .int (v5 + 1)), (0, .ref (X.2.1 + 0)), (1, .int v1), (2, .int v2), (3, .int v3_139), (4, .int v4_139)] (by decide) rfl dX11_passing_139 ?_
      refine ya_goto 28 (by decide) dX11_passing_142 ?_
      refine ya_sub [(0, .ref (X.2.1 + 0)), (1, .int v1), (2, .int v2), (3, .int v3_139), (4, .int v4_139), (5, .int (v5 + 1))] [1, 2, 3, 4, 5, 0] rfl ?_
      exact ih _ _ _ h
set_option maxRecDepth 20000 in
theorem c_X11_passing {X : ya_X} {G : ya_G} {v1 : Int32} {v2 : Int32} {d : ya_D} {rr : Int32} (hG : ya_Bk ya_sh ya_ln G 0) (h : f_X11_passing v1 v2 d = some rr) : ya_Ct X yX11_passing Y_X11_passing [.ref (X.2.1 + 0), .int v1, .int v2] G d (some (.int rr), G, d) := by
  refine ya_ct (by decide +kernel) rfl rfl (Nat.le_of_ble_eq_true rfl) ?_
  unfold f_X11_passing at h
  show ya_E X Y_X11_passing (ya_M X (some (.int rr), G, d) 0 0) 0 [(0, .ref (X.2.1 + 0)), (1, .int v1), (2, .int v2)] [] G d 0 0
  refine ya_aload_n 0 rfl dX11_passing_0 ?_
  refine ya_iload_n 1 rfl dX11_passing_1 ?_
  obtain ⟨x2, e2, h⟩ := ya_ob h
  refine ya_callVi (S := []) (c_X11_isThing hG e2) m_X11_isThing ⟨rfl, rfl⟩ ml_X11_303 rfl ⟨Nat.le_of_ble_eq_true rfl, Nat.le_of_ble_eq_true rfl⟩ (Nat.le_of_ble_eq_true rfl) (hG.lt0 0 (by decide)) (hG.o0 0 rfl) (by decide) rfl rfl ⟨Nat.le_refl _, Nat.le_refl _⟩ dX11_passing_2 rfl ?_
  refine ya_j0_s h (ya_E X Y_X11_passing (ya_M X (some (.int rr), G, d) 0 0) 17 [] [] G d 0 0) (fun h => ?_) (fun k17 hk17 h => ?_)
  · refine ya_bipush (-2) (by decide) dX11_passing_17 ?_
    cases h
    exact ya_iret rfl rfl rfl rfl rfl (Nat.le_refl _) dX11_passing_19
  · refine ya_ifeq 17 (by decide) dX11_passing_5 (fun c => ?_) (fun c => ?_)
    · replace h := ya_itet h c
      refine ya_sub [] [] rfl ?_
      exact hk17  h
    · replace h := ya_itef h c
      refine ya_iload_n 2 rfl dX11_passing_8 ?_
      refine ya_iconst 0 (by decide) dX11_passing_9 ?_
      refine ya_iconst 3 (by decide) dX11_passing_10 ?_
      obtain ⟨x11, e11, h⟩ := ya_ob h
      refine ya_callSi (S := []) (c_X11_within hG e11) m_X11_within ⟨rfl, rfl⟩ ml_X11_213 rfl ⟨Nat.le_of_ble_eq_true rfl, Nat.le_of_ble_eq_true rfl⟩ (Nat.le_of_ble_eq_true rfl) ⟨Nat.le_refl _, Nat.le_refl _⟩ dX11_passing_11 rfl ?_
      refine ya_ifne 20 (by decide) dX11_passing_14 (fun c => ?_) (fun c => ?_)
      · replace h := ya_itef h c
        refine ya_iconst 0 (by decide) dX11_passing_20 ?_
        refine ya_istore_n [(3, .int 0), (0, .ref (X.2.1 + 0)), (1, .int v1), (2, .int v2)] (by decide) rfl dX11_passing_21 ?_
        refine ya_iconst (-1) (by decide) dX11_passing_22 ?_
        refine ya_istore [(4, .int (-1)), (3, .int 0), (0, .ref (X.2.1 + 0)), (1, .int v1), (2, .int v2)] (by decide) rfl dX11_passing_23 ?_
        refine ya_iconst 0 (by decide) dX11_passing_25 ?_
        refine ya_istore [(5, .int 0), (4, .int (-1)), (3, .int 0), (0, .ref (X.2.1 + 0)), (1, .int v1), (2, .int v2)] (by decide) rfl dX11_passing_26 ?_
        refine ya_sub [(0, .ref (X.2.1 + 0)), (1, .int v1), (2, .int v2), (3, .int 0), (4, .int (-1)), (5, .int 0)] [3, 4, 5, 2, 1, 0] rfl ?_
        refine w_X11_passing_L28 hG (fun v3_145 v4_145 h => ?_) ya_F _ _ _ h
        refine ya_iload_n 0 rfl dX11_passing_145 ?_
        refine ya_j0_s h (ya_E X Y_X11_passing (ya_M X (some (.int rr), G, d) 0 0) 155 [(2, .int v2), (3, .int v3_145)] [] G d 0 0) (fun h => ?_) (fun k155 hk155 h => ?_)
        · refine ya_iload_n 0 rfl dX11_passing_155 ?_
          refine ya_ifne 163 (by decide) dX11_passing_156 (fun c => ?_) (fun c => ?_)
          · replace h := ya_itef h c
            refine ya_iconst (-1) (by decide) dX11_passing_163 ?_
            cases h
            exact ya_iret rfl rfl rfl rfl rfl (Nat.le_refl _) dX11_passing_164
          · replace h := ya_itet h c
            refine ya_iload_n 1 rfl dX11_passing_159 ?_
            refine ya_goto 164 (by decide) dX11_passing_160 ?_
            cases h
            exact ya_iret rfl rfl rfl rfl rfl (Nat.le_refl _) dX11_passing_164
        · refine ya_ifeq 155 (by decide) dX11_passing_146 (fun c => ?_) (fun c => ?_)
          · replace h := ya_itet h c
            refine ya_sub [(2, .int v2), (3, .int v3_145)] [0, 1] rfl ?_
            exact hk155  h
          · replace h := ya_itef h c
            refine ya_iload 2 rfl dX11_passing_149 ?_
            refine ya_iconst (-1) (by decide) dX11_passing_151 ?_
            refine ya_icmp_ne 165 (by decide) dX11_passing_152 (fun c => ?_) (fun c => ?_)
            · replace h := ya_itef h c
              refine ya_iload 2 rfl dX11_passing_165 ?_
              refine ya_iload_n 0 rfl dX11_passing_167 ?_
              obtain ⟨x168, e168, h⟩ := ya_ob h
              refine ya_callSi (S := []) (c_X11_passingPart hG e168) m_X11_passingPart ⟨rfl, rfl⟩ ml_X11_311 rfl ⟨Nat.le_of_ble_eq_true rfl, Nat.le_of_ble_eq_true rfl⟩ (Nat.le_of_ble_eq_true rfl) ⟨Nat.le_refl _, Nat.le_refl _⟩ dX11_passing_168 rfl ?_
              cases h
              exact ya_iret rfl rfl rfl rfl rfl (Nat.le_refl _) dX11_passing_171
            · replace h := ya_itet h c
              refine ya_sub [(2, .int v2), (3, .int v3_145)] [0, 1] rfl ?_
              exact hk155  h
      · replace h := ya_itet h c
        refine ya_sub [] [] rfl ?_
        exact hk17  h
set_option maxRecDepth 20000 in
theorem w_X11_like_L86 {X : ya_X} {G : ya_G} {v1 : Int32} {v2 : Int32} {v3 : Int32} {v4 : Int32} {v5 : Int32} {rr : (Int32 × ya_D)} (hG : ya_Bk ya_sh ya_ln G 0) : ∀ (n : Nat) (v7 : Int32) (v9 : Int32) (d : ya_D), f_X11_like_L86 v1 v2 v3 v4 v5 n v7 v9 d = some rr → ya_E X Y_X11_like (ya_M X (some (.int rr.1), G, rr.2) 0 0) 86 [(0, .ref (X.2.1 + 0)), (1, .int v1), (2, .int v2), (3, .int v3), (4, .int v4), (5, .int v5), (7, .int v7), (8, .ref (X.2.1 + 27)), (9, .int v9)] [] G d 0 0 := by
  intro n
  induction n with
  | zero => intro v7 v9 d h; cases h
  | succ n ih =>
    intro v7 v9 d h
    rw [f_X11_like_L86] at h
    refine ya_iload 8 rfl dX11_like_86 ?_
    refine ya_aload_n 0 rfl dX11_like_88 ?_
    refine ya_getR fo_X11_26 (hG.o0 0 rfl) (hG.lt0 0 (by decide)) (hG.l0 40 rfl) dX11_like_89 ?_
    refine ya_getI fo_X11_192 (hG.o0 24 rfl) (hG.lt0 24 (by decide)) dX11_like_92 ?_
    refine ya_icmp_ge 161 (by decide) dX11_like_95 (fun c => ?_) (fun c => ?_)
    · replace h := ya_itet h c
      refine ya_aload_n 0 rfl dX11_like_161 ?_
      refine ya_iconst 0 (by decide) dX11_like_162 ?_
      refine ya_putIb fo_X11_64 (hG.o0 0 rfl) (hG.lt0 0 (by decide)) .boolean pf_X11_9 (by decide) rfl dX11_like_163 h (fun d163 h => ?_)
      refine ya_iload 6 rfl dX11_like_166 ?_
      cases h
      exact ya_iret rfl rfl rfl rfl rfl (Nat.le_refl _) dX11_like_168
    · replace h := ya_itef h c
      refine ya_iload_n 3 rfl dX11_like_98 ?_
      refine ya_aload 7 rfl dX11_like_99 ?_
      refine ya_iload_n 2 rfl dX11_like_101 ?_
      refine ya_iload 8 rfl dX11_like_102 ?_
      obtain ⟨x104, e104, h⟩ := ya_ob h
      refine ya_callSi (S := [.ref (X.2.1 + 27), .int v3]) (c_X11_cell hG e104) m_X11_cell ⟨rfl, rfl⟩ ml_X11_110 rfl ⟨Nat.le_of_ble_eq_true rfl, Nat.le_of_ble_eq_true rfl⟩ (Nat.le_of_ble_eq_true rfl) ⟨Nat.le_refl _, Nat.le_refl _⟩ dX11_like_104 rfl ?_
      refine ya_iald (hG.s0 27 rfl) (hG.lt0 27 (by decide)) dX11_like_107 h (fun x107 h => ?_)
      refine ya_imul dX11_like_108 ?_
      refine ya_iload 5 rfl dX11_like_109 ?_
      refine ya_aload 7 rfl dX11_like_111 ?_
      refine ya_iload 4 rfl dX11_like_113 ?_
      refine ya_iload 8 rfl dX11_like_115 ?_
      obtain ⟨x117, e117, h⟩ := ya_ob h
      refine ya_callSi (S := [.ref (X.2.1 + 27), .int v5, .int (v3 * x107)]) (c_X11_cell hG e117) m_X11_cell ⟨rfl, rfl⟩ ml_X11_110 rfl ⟨Nat.le_of_ble_eq_true rfl, Nat.le_of_ble_eq_true rfl⟩ (Nat.le_of_ble_eq_true rfl) ⟨Nat.le_refl _, Nat.le_refl _⟩ dX11_like_117 rfl ?_
      refine ya_iald (hG.s0 27 rfl) (hG.lt0 27 (by decide)) dX11_like_120 h (fun x120 h => ?_)
      refine ya_imul dX11_like_121 ?_
      refine ya_iadd dX11_like_122 ?_
      refine ya_istore [(10, .int ((v3 * x107) + (v5 * x120))), (0, .ref (X.2.1 + 0)), (1, .int v1), (2, .int v2), (3, .int v3), (4, .int v4), (5, .int v5), (7, .int v7), (8, .ref (X.2.1 + 27)), (9, .int v9)] (by decide) rfl dX11_like_123 ?_
      refine ya_aload 8 rfl dX11_like_125 ?_
      refine ya_iload_n 2 rfl dX11_like_127 ?_
      refine ya_iload 9 rfl dX11_like_128 ?_
      obtain ⟨x130, e130, h⟩ := ya_ob h
      refine ya_callSi (S := [.ref (X.2.1 + 27)]) (c_X11_cell hG e130) m_X11_cell ⟨rfl, rfl⟩ ml_X11_110 rfl ⟨Nat.le_of_ble_eq_true rfl, Nat.le_of_ble_eq_true rfl⟩ (Nat.le_of_ble_eq_true rfl) ⟨Nat.le_refl _, Nat.le_refl _⟩ dX11_like_130 rfl ?_
      refine ya_iload 0 rfl dX11_like_133 ?_
      refine ya_iload_n 4 rfl dX11_like_135 ?_
      refine ya_iload 6 rfl dX11_like_136 ?_
      refine ya_iadd dX11_like_138 ?_
      refine ya_idivb dX11_like_139 h (fun x139 h => ?_)
      refine ya_iast (hG.s0 27 rfl) (hG.lt0 27 (by decide)) dX11_like_140 h (fun d140 h => ?_)
      refine ya_iload 7 rfl dX11_like_141 ?_
      refine ya_aload 8 rfl dX11_like_143 ?_
      refine ya_iload_n 2 rfl dX11_like_145 ?_
      refine ya_iload 9 rfl dX11_like_146 ?_
      obtain ⟨x148, e148, h⟩ := ya_ob h
      refine ya_callSi (S := [.ref (X.2.1 + 27), .int v7]) (c_X11_cell hG e148) m_X11_cell ⟨rfl, rfl⟩ ml_X11_110 rfl ⟨Nat.le_of_ble_eq_true rfl, Nat.le_of_ble_eq_true rfl⟩ (Nat.le_of_ble_eq_true rfl) ⟨Nat.le_refl _, Nat.le_refl _⟩ dX11_like_148 rfl ?_
      refine ya_iald (hG.s0 27 rfl) (hG.lt0 27 (by decide)) dX11_like_151 h (fun x151 h => ?_)
      refine ya_iadd dX11_like_152 ?_
      refine ya_istore [(7, .int (v7 + x151)), (10, .int ((v3 * x107) + (v5 * x120))), (0, .ref (X.2.1 + 0)), (1, .int v1), (2, .int v2), (3, .int v3), (4, .int v4), (5, .int v5), (8, .ref (X.2.1 + 27)), (9, .int v9)] (by decide) rfl dX11_like_153 ?_
      refine ya_iinc (v9 + 1) rfl 9 rfl [(9, .int (v9 + 1)), (7, .int (v7 + x151)), (10, .int ((v3 * x107) + (v5 * x120))), (0, .ref (X.2.1 + 0)), (1, .int v1), (2, .int v2), (3, .int v3), (4, .int v4), (5, .int v5), (8, .ref (X.2.1 + 27))] (by decide) rfl dX11_like_155 ?_
      refine ya_goto 86 (by decide) dX11_like_158 ?_
      refine ya_sub [(0, .ref (X.2.1 + 0)), (1, .int v1), (2, .int v2), (3, .int v3), (4, .int v4), (5, .int v5), (7, .int (v7 + x151)), (8, .ref (X.2.1 + 27)), (9, .int (v9 + 1))] [3, 4, 5, 6, 7, 8, 1, 9, 0] rfl ?_
      exact ih _ _ _ h
set_option maxRecDepth 20000 in
theorem c_X11_like {X : ya_X} {G : ya_G} {v1 : Int32} {v2 : Int32} {v3 : Int32} {v4 : Int32} {v5 : Int32} {d : ya_D} {rr : (Int32 × ya_D)} (hG : ya_Bk ya_sh ya_ln G 0) (h : f_X11_like v1 v2 v3 v4 v5 d = some rr) : ya_Ct X yX11_like Y_X11_like [.ref (X.2.1 + 0), .int v1, .int v2, .int v3, .int v4, .int v5] G d (some (.int rr.1), G, rr.2) := by
  refine ya_ct (by decide +kernel) rfl rfl (Nat.le_of_ble_eq_true rfl) ?_
  unfold f_X11_like at h
  show ya_E X Y_X11_like (ya_M X (some (.int rr.1), G, rr.2) 0 0) 0 [(0, .ref (X.2.1 + 0)), (1, .int v1), (2, .int v2), (3, .int v3), (4, .int v4), (5, .int v5)] [] G d 0 0
  refine ya_aload_n 0 rfl dX11_like_0 ?_
  refine ya_iload_n 1 rfl dX11_like_1 ?_
  obtain ⟨x2, e2, h⟩ := ya_ob h
  refine ya_callVi (S := []) (c_X11_isThing hG e2) m_X11_isThing ⟨rfl, rfl⟩ ml_X11_303 rfl ⟨Nat.le_of_ble_eq_true rfl, Nat.le_of_ble_eq_true rfl⟩ (Nat.le_of_ble_eq_true rfl) (hG.lt0 0 (by decide)) (hG.o0 0 rfl) (by decide) rfl rfl ⟨Nat.le_refl _, Nat.le_refl _⟩ dX11_like_2 rfl ?_
  refine ya_j1_s h (fun t0_30 => ya_E X Y_X11_like (ya_M X (some (.int rr.1), G, rr.2) 0 0) 30 [(0, .ref (X.2.1 + 0)), (1, .int v1), (2, .int v2), (3, .int v3), (4, .int v4), (5, .int v5)] [.int t0_30] G d 0 0) (fun t0_30 h => ?_) (fun k30 hk30 h => ?_)
  · refine ya_istore [(6, .int t0_30), (0, .ref (X.2.1 + 0)), (1, .int v1), (2, .int v2), (3, .int v3), (4, .int v4), (5, .int v5)] (by decide) rfl dX11_like_30 ?_
    refine ya_iload 0 rfl dX11_like_32 ?_
    refine ya_j0_s h (ya_E X Y_X11_like (ya_M X (some (.int rr.1), G, rr.2) 0 0) 65 [] [] G d 0 0) (fun h => ?_) (fun k65 hk65 h => ?_)
    · refine ya_bipush (-2) (by decide) dX11_like_65 ?_
      cases h
      exact ya_iret rfl rfl rfl rfl rfl (Nat.le_refl _) dX11_like_67
    · refine ya_ifeq 65 (by decide) dX11_like_34 (fun c => ?_) (fun c => ?_)
      · replace h := ya_itet h c
        refine ya_sub [] [] rfl ?_
        exact hk65  h
      · replace h := ya_itef h c
        refine ya_iload_n 4 rfl dX11_like_37 ?_
        refine ya_iconst 0 (by decide) dX11_like_38 ?_
        refine ya_bipush 9 (by decide) dX11_like_39 ?_
        obtain ⟨x41, e41, h⟩ := ya_ob h
        refine ya_callSi (S := []) (c_X11_within hG e41) m_X11_within ⟨rfl, rfl⟩ ml_X11_213 rfl ⟨Nat.le_of_ble_eq_true rfl, Nat.le_of_ble_eq_true rfl⟩ (Nat.le_of_ble_eq_true rfl) ⟨Nat.le_refl _, Nat.le_refl _⟩ dX11_like_41 rfl ?_
        refine ya_ifeq 65 (by decide) dX11_like_44 (fun c => ?_) (fun c => ?_)
        · replace h := ya_itet h c
          refine ya_sub [] [] rfl ?_
          exact hk65  h
        · replace h := ya_itef h c
          refine ya_iload 6 rfl dX11_like_47 ?_
          refine ya_iconst 0 (by decide) dX11_like_49 ?_
          refine ya_bipush 9 (by decide) dX11_like_50 ?_
          obtain ⟨x52, e52, h⟩ := ya_ob h
          refine ya_callSi (S := []) (c_X11_within hG e52) m_X11_within ⟨rfl, rfl⟩ ml_X11_213 rfl ⟨Nat.le_of_ble_eq_true rfl, Nat.le_of_ble_eq_true rfl⟩ (Nat.le_of_ble_eq_true rfl) ⟨Nat.le_refl _, Nat.le_refl _⟩ dX11_like_52 rfl ?_
          refine ya_ifeq 65 (by decide) dX11_like_55 (fun c => ?_) (fun c => ?_)
          · replace h := ya_itet h c
            refine ya_sub [] [] rfl ?_
            exact hk65  h
          · replace h := ya_itef h c
            refine ya_iload_n 4 rfl dX11_like_58 ?_
            refine ya_iload 6 rfl dX11_like_59 ?_
            refine ya_iadd dX11_like_61 ?_
            refine ya_ifne 68 (by decide) dX11_like_62 (fun c => ?_) (fun c => ?_)
            · replace h := ya_itef h c
              refine ya_iconst 0 (by decide) dX11_like_68 ?_
              refine ya_istore [(7, .int 0), (6, .int t0_30), (0, .ref (X.2.1 + 0)), (1, .int v1), (2, .int v2), (3, .int v3), (4, .int v4), (5, .int v5)] (by decide) rfl dX11_like_69 ?_
              refine ya_aload_n 2 rfl dX11_like_71 ?_
              refine ya_getR fo_X11_26 (hG.o0 0 rfl) (hG.lt0 0 (by decide)) (hG.l0 40 rfl) dX11_like_72 ?_
              refine ya_getR fo_X11_100 (hG.o0 24 rfl) (hG.lt0 24 (by decide)) (hG.l0 27 rfl) dX11_like_75 ?_
              refine ya_getR fo_X11_104 (hG.o0 25 rfl) (hG.lt0 25 (by decide)) (hG.l0 24 rfl) dX11_like_78 ?_
              refine ya_astore [(8, .ref (X.2.1 + 27)), (7, .int 0), (6, .int t0_30), (0, .ref (X.2.1 + 0)), (1, .int v1), (2, .int v2), (3, .int v3), (4, .int v4), (5, .int v5)] (by decide) rfl dX11_like_81 ?_
              refine ya_iconst 0 (by decide) dX11_like_83 ?_
              refine ya_istore [(9, .int 0), (8, .ref (X.2.1 + 27)), (7, .int 0), (6, .int t0_30), (0, .ref (X.2.1 + 0)), (1, .int v1), (2, .int v2), (3, .int v3), (4, .int v4), (5, .int v5)] (by decide) rfl dX11_like_84 ?_
              refine ya_sub [(0, .ref (X.2.1 + 0)), (1, .int v1), (2, .int v2), (3, .int v3), (4, .int v4), (5, .int v5), (7, .int 0), (8, .ref (X.2.1 + 27)), (9, .int 0)] [4, 5, 6, 7, 8, 9, 2, 1, 0] rfl ?_
              refine w_X11_like_L86 hG  ya_F _ _ _ h
            · replace h := ya_itet h c
              refine ya_sub [] [] rfl ?_
              exact hk65  h
  · refine ya_j0_s h (ya_E X Y_X11_like (ya_M X (some (.int rr.1), G, rr.2) 0 0) 29 [(0, .ref (X.2.1 + 0)), (1, .int v1), (2, .int v2), (3, .int v3), (4, .int v4), (5, .int v5)] [] G d 0 0) (fun h => ?_) (fun k29 hk29 h => ?_)
    · refine ya_iconst 0 (by decide) dX11_like_29 ?_
      exact hk30 _ h
    · refine ya_ifeq 29 (by decide) dX11_like_5 (fun c => ?_) (fun c => ?_)
      · replace h := ya_itet h c
        exact hk29  h
      · replace h := ya_itef h c
        refine ya_aload_n 0 rfl dX11_like_8 ?_
        refine ya_iload_n 2 rfl dX11_like_9 ?_
        obtain ⟨x10, e10, h⟩ := ya_ob h
        refine ya_callVi (S := []) (c_X11_isThing hG e10) m_X11_isThing ⟨rfl, rfl⟩ ml_X11_303 rfl ⟨Nat.le_of_ble_eq_true rfl, Nat.le_of_ble_eq_true rfl⟩ (Nat.le_of_ble_eq_true rfl) (hG.lt0 0 (by decide)) (hG.o0 0 rfl) (by decide) rfl rfl ⟨Nat.le_refl _, Nat.le_refl _⟩ dX11_like_10 rfl ?_
        refine ya_ifeq 29 (by decide) dX11_like_13 (fun c => ?_) (fun c => ?_)
        · replace h := ya_itet h c
          exact hk29  h
        · replace h := ya_itef h c
          refine ya_aload_n 0 rfl dX11_like_16 ?_
          refine ya_iload 4 rfl dX11_like_17 ?_
          obtain ⟨x19, e19, h⟩ := ya_ob h
          refine ya_callVi (S := []) (c_X11_isThing hG e19) m_X11_isThing ⟨rfl, rfl⟩ ml_X11_303 rfl ⟨Nat.le_of_ble_eq_true rfl, Nat.le_of_ble_eq_true rfl⟩ (Nat.le_of_ble_eq_true rfl) (hG.lt0 0 (by decide)) (hG.o0 0 rfl) (by decide) rfl rfl ⟨Nat.le_refl _, Nat.le_refl _⟩ dX11_like_19 rfl ?_
          refine ya_ifeq 29 (by decide) dX11_like_22 (fun c => ?_) (fun c => ?_)
          · replace h := ya_itet h c
            exact hk29  h
          · replace h := ya_itef h c
            refine ya_iconst 1 (by decide) dX11_like_25 ?_
            refine ya_goto 30 (by decide) dX11_like_26 ?_
            exact hk30 _ h
set_option maxRecDepth 20000 in
theorem w_X11_dearestDay_L4 {X : ya_X} {G : ya_G} {v1 : Int32} {d : ya_D} {rr : Int32} (hG : ya_Bk ya_sh ya_ln G 0) : ∀ (n : Nat) (v2 : Int32) (v3 : Int32), f_X11_dearestDay_L4 v1 d n v2 v3 = some rr → ya_E X Y_X11_dearestDay (ya_M X (some (.int rr), G, d) 0 0) 4 [(0, .ref (X.2.1 + 0)), (1, .int v1), (2, .int v2), (3, .int v3)] [] G d 0 0 := by
  intro n
  induction n with
  | zero => intro v2 v3 h; cases h
  | succ n ih =>
    intro v2 v3 h
    rw [f_X11_dearestDay_L4] at h
    refine ya_iload_n 3 rfl dX11_dearestDay_4 ?_
    refine ya_aload_n 0 rfl dX11_dearestDay_5 ?_
    refine ya_getR fo_X11_26 (hG.o0 0 rfl) (hG.lt0 0 (by decide)) (hG.l0 40 rfl) dX11_dearestDay_6 ?_
    refine ya_getI fo_X11_192 (hG.o0 24 rfl) (hG.lt0 24 (by decide)) dX11_dearestDay_9 ?_
    refine ya_icmp_ge 58 (by decide) dX11_dearestDay_12 (fun c => ?_) (fun c => ?_)
    · replace h := ya_itet h c
      refine ya_iload_n 2 rfl dX11_dearestDay_58 ?_
      cases h
      exact ya_iret rfl rfl rfl rfl rfl (Nat.le_refl _) dX11_dearestDay_59
    · replace h := ya_itef h c
      refine ya_aload_n 0 rfl dX11_dearestDay_15 ?_
      refine ya_getR fo_X11_26 (hG.o0 0 rfl) (hG.lt0 0 (by decide)) (hG.l0 40 rfl) dX11_dearestDay_16 ?_
      refine ya_getR fo_X11_100 (hG.o0 24 rfl) (hG.lt0 24 (by decide)) (hG.l0 27 rfl) dX11_dearestDay_19 ?_
      refine ya_getR fo_X11_104 (hG.o0 25 rfl) (hG.lt0 25 (by decide)) (hG.l0 24 rfl) dX11_dearestDay_22 ?_
      refine ya_iload_n 1 rfl dX11_dearestDay_25 ?_
      refine ya_iload_n 3 rfl dX11_dearestDay_26 ?_
      obtain ⟨x27, e27, h⟩ := ya_ob h
      refine ya_callSi (S := [.ref (X.2.1 + 27)]) (c_X11_cell hG e27) m_X11_cell ⟨rfl, rfl⟩ ml_X11_110 rfl ⟨Nat.le_of_ble_eq_true rfl, Nat.le_of_ble_eq_true rfl⟩ (Nat.le_of_ble_eq_true rfl) ⟨Nat.le_refl _, Nat.le_refl _⟩ dX11_dearestDay_27 rfl ?_
      refine ya_iald (hG.s0 27 rfl) (hG.lt0 27 (by decide)) dX11_dearestDay_30 h (fun x30 h => ?_)
      refine ya_aload_n 0 rfl dX11_dearestDay_31 ?_
      refine ya_getR fo_X11_26 (hG.o0 0 rfl) (hG.lt0 0 (by decide)) (hG.l0 40 rfl) dX11_dearestDay_32 ?_
      refine ya_getR fo_X11_100 (hG.o0 24 rfl) (hG.lt0 24 (by decide)) (hG.l0 27 rfl) dX11_dearestDay_35 ?_
      refine ya_getR fo_X11_104 (hG.o0 25 rfl) (hG.lt0 25 (by decide)) (hG.l0 24 rfl) dX11_dearestDay_38 ?_
      refine ya_iload_n 1 rfl dX11_dearestDay_41 ?_
      refine ya_iload_n 2 rfl dX11_dearestDay_42 ?_
      obtain ⟨x43, e43, h⟩ := ya_ob h
      refine ya_callSi (S := [.ref (X.2.1 + 27), .int x30]) (c_X11_cell hG e43) m_X11_cell ⟨rfl, rfl⟩ ml_X11_110 rfl ⟨Nat.le_of_ble_eq_true rfl, Nat.le_of_ble_eq_true rfl⟩ (Nat.le_of_ble_eq_true rfl) ⟨Nat.le_refl _, Nat.le_refl _⟩ dX11_dearestDay_43 rfl ?_
      refine ya_iald (hG.s0 27 rfl) (hG.lt0 27 (by decide)) dX11_dearestDay_46 h (fun x46 h => ?_)
      refine ya_j1_s h (fun v2_52 => ya_E X Y_X11_dearestDay (ya_M X (some (.int rr), G, d) 0 0) 52 [(0, .ref (X.2.1 + 0)), (1, .int v1), (2, .int v2_52), (3, .int v3)] [] G d 0 0) (fun v2_52 h => ?_) (fun k52 hk52 h => ?_)
      · refine ya_iinc (v3 + 1) rfl 3 rfl [(3, .int (v3 + 1)), (0, .ref (X.2.1 + 0)), (1, .int v1), (2, .int v2_52)] (by decide) rfl dX11_dearestDay_52 ?_
        refine ya_goto 4 (by decide) dX11_dearestDay_55 ?_
        refine ya_sub [(0, .ref (X.2.1 + 0)), (1, .int v1), (2, .int v2_52), (3, .int (v3 + 1))] [1, 2, 3, 0] rfl ?_
        exact ih _ _ h
      · refine ya_icmp_le 52 (by decide) dX11_dearestDay_47 (fun c => ?_) (fun c => ?_)
        · replace h := ya_itet h c
          exact hk52 _ h
        · replace h := ya_itef h c
          refine ya_iload_n 3 rfl dX11_dearestDay_50 ?_
          refine ya_istore_n [(2, .int v3), (0, .ref (X.2.1 + 0)), (1, .int v1), (3, .int v3)] (by decide) rfl dX11_dearestDay_51 ?_
          refine ya_sub [(0, .ref (X.2.1 + 0)), (1, .int v1), (2, .int v3), (3, .int v3)] [1, 2, 0, 3] rfl ?_
          exact hk52 _ h
set_option maxRecDepth 20000 in
theorem c_X11_dearestDay {X : ya_X} {G : ya_G} {v1 : Int32} {d : ya_D} {rr : Int32} (hG : ya_Bk ya_sh ya_ln G 0) (h : f_X11_dearestDay v1 d = some rr) : ya_Ct X yX11_dearestDay Y_X11_dearestDay [.ref (X.2.1 + 0), .int v1] G d (some (.int rr), G, d) := by
  refine ya_ct (by decide +kernel) rfl rfl (Nat.le_of_ble_eq_true rfl) ?_
  unfold f_X11_dearestDay at h
  show ya_E X Y_X11_dearestDay (ya_M X (some (.int rr), G, d) 0 0) 0 [(0, .ref (X.2.1 + 0)), (1, .int v1)] [] G d 0 0
  refine ya_iconst 0 (by decide) dX11_dearestDay_0 ?_
  refine ya_istore_n [(2, .int 0), (0, .ref (X.2.1 + 0)), (1, .int v1)] (by decide) rfl dX11_dearestDay_1 ?_
  refine ya_iconst 1 (by decide) dX11_dearestDay_2 ?_
  refine ya_istore_n [(3, .int 1), (2, .int 0), (0, .ref (X.2.1 + 0)), (1, .int v1)] (by decide) rfl dX11_dearestDay_3 ?_
  refine ya_sub [(0, .ref (X.2.1 + 0)), (1, .int v1), (2, .int 0), (3, .int 1)] [2, 3, 1, 0] rfl ?_
  refine w_X11_dearestDay_L4 hG  ya_F _ _ h
set_option maxRecDepth 20000 in
theorem w_X11_cheapestDay_L4 {X : ya_X} {G : ya_G} {v1 : Int32} {d : ya_D} {rr : Int32} (hG : ya_Bk ya_sh ya_ln G 0) : ∀ (n : Nat) (v2 : Int32) (v3 : Int32), f_X11_cheapestDay_L4 v1 d n v2 v3 = some rr → ya_E X Y_X11_cheapestDay (ya_M X (some (.int rr), G, d) 0 0) 4 [(0, .ref (X.2.1 + 0)), (1, .int v1), (2, .int v2), (3, .int v3)] [] G d 0 0 := by
  intro n
  induction n with
  | zero => intro v2 v3 h; cases h
  | succ n ih =>
    intro v2 v3 h
    rw [f_X11_cheapestDay_L4] at h
    refine ya_iload_n 3 rfl dX11_cheapestDay_4 ?_
    refine ya_aload_n 0 rfl dX11_cheapestDay_5 ?_
    refine ya_getR fo_X11_26 (hG.o0 0 rfl) (hG.lt0 0 (by decide)) (hG.l0 40 rfl) dX11_cheapestDay_6 ?_
    refine ya_getI fo_X11_192 (hG.o0 24 rfl) (hG.lt0 24 (by decide)) dX11_cheapestDay_9 ?_
    refine ya_icmp_ge 58 (by decide) dX11_cheapestDay_12 (fun c => ?_) (fun c => ?_)
    · replace h := ya_itet h c
      refine ya_iload_n 2 rfl dX11_cheapestDay_58 ?_
      cases h
      exact ya_iret rfl rfl rfl rfl rfl (Nat.le_refl _) dX11_cheapestDay_59
    · replace h := ya_itef h c
      refine ya_aload_n 0 rfl dX11_cheapestDay_15 ?_
      refine ya_getR fo_X11_26 (hG.o0 0 rfl) (hG.lt0 0 (by decide)) (hG.l0 40 rfl) dX11_cheapestDay_16 ?_
      refine ya_getR fo_X11_100 (hG.o0 24 rfl) (hG.lt0 24 (by decide)) (hG.l0 27 rfl) dX11_cheapestDay_19 ?_
      refine ya_getR fo_X11_104 (hG.o0 25 rfl) (hG.lt0 25 (by decide)) (hG.l0 24 rfl) dX11_cheapestDay_22 ?_
      refine ya_iload_n 1 rfl dX11_cheapestDay_25 ?_
      refine ya_iload_n 3 rfl dX11_cheapestDay_26 ?_
      obtain ⟨x27, e27, h⟩ := ya_ob h
      refine ya_callSi (S := [.ref (X.2.1 + 27)]) (c_X11_cell hG e27) m_X11_cell ⟨rfl, rfl⟩ ml_X11_110 rfl ⟨Nat.le_of_ble_eq_true rfl, Nat.le_of_ble_eq_true rfl⟩ (Nat.le_of_ble_eq_true rfl) ⟨Nat.le_refl _, Nat.le_refl _⟩ dX11_cheapestDay_27 rfl ?_
      refine ya_iald (hG.s0 27 rfl) (hG.lt0 27 (by decide)) dX11_cheapestDay_30 h (fun x30 h => ?_)
      refine ya_aload_n 0 rfl dX11_cheapestDay_31 ?_
      refine ya_getR fo_X11_26 (hG.o0 0 rfl) (hG.lt0 0 (by decide)) (hG.l0 40 rfl) dX11_cheapestDay_32 ?_
      refine ya_getR fo_X11_100 (hG.o0 24 rfl) (hG.lt0 24 (by decide)) (hG.l0 27 rfl) dX11_cheapestDay_35 ?_
      refine ya_getR fo_X11_104 (hG.o0 25 rfl) (hG.lt0 25 (by decide)) (hG.l0 24 rfl) dX11_cheapestDay_38 ?_
      refine ya_iload_n 1 rfl dX11_cheapestDay_41 ?_
      refine ya_iload_n 2 rfl dX11_cheapestDay_42 ?_
      obtain ⟨x43, e43, h⟩ := ya_ob h
      refine ya_callSi (S := [.ref (X.2.1 + 27), .int x30]) (c_X11_cell hG e43) m_X11_cell ⟨rfl, rfl⟩ ml_X11_110 rfl ⟨Nat.le_of_ble_eq_true rfl, Nat.le_of_ble_eq_true rfl⟩ (Nat.le_of_ble_eq_true rfl) ⟨Nat.le_refl _, Nat.le_refl _⟩ dX11_cheapestDay_43 rfl ?_
      refine ya_iald (hG.s0 27 rfl) (hG.lt0 27 (by decide)) dX11_cheapestDay_46 h (fun x46 h => ?_)
      refine ya_j1_s h (fun v2_52 => ya_E X Y_X11_cheapestDay (ya_M X (some (.int rr), G, d) 0 0) 52 [(0, .ref (X.2.1 + 0)), (1, .int v1), (2, .int v2_52), (3, .int v3)] [] G d 0 0) (fun v2_52 h => ?_) (fun k52 hk52 h => ?_)
      · refine ya_iinc (v3 + 1) rfl 3 rfl [(3, .int (v3 + 1)), (0, .ref (X.2.1 + 0)), (1, .int v1), (2, .int v2_52)] (by decide) rfl dX11_cheapestDay_52 ?_
        refine ya_goto 4 (by decide) dX11_cheapestDay_55 ?_
        refine ya_sub [(0, .ref (X.2.1 + 0)), (1, .int v1), (2, .int v2_52), (3, .int (v3 + 1))] [1, 2, 3, 0] rfl ?_
        exact ih _ _ h
      · refine ya_icmp_ge 52 (by decide) dX11_cheapestDay_47 (fun c => ?_) (fun c => ?_)
        · replace h := ya_itet h c
          exact hk52 _ h
        · replace h := ya_itef h c
          refine ya_iload_n 3 rfl dX11_cheapestDay_50 ?_
          refine ya_istore_n [(2, .int v3), (0, .ref (X.2.1 + 0)), (1, .int v1), (3, .int v3)] (by decide) rfl dX11_cheapestDay_51 ?_
          refine ya_sub [(0, .ref (X.2.1 + 0)), (1, .int v1), (2, .int v3), (3, .int v3)] [1, 2, 0, 3] rfl ?_
          exact hk52 _ h
set_option maxRecDepth 20000 in
theorem c_X11_cheapestDay {X : ya_X} {G : ya_G} {v1 : Int32} {d : ya_D} {rr : Int32} (hG : ya_Bk ya_sh ya_ln G 0) (h : f_X11_cheapestDay v1 d = some rr) : ya_Ct X yX11_cheapestDay Y_X11_cheapestDay [.ref (X.2.1 + 0), .int v1] G d (some (.int rr), G, d) := by
  refine ya_ct (by decide +kernel) rfl rfl (Nat.le_of_ble_eq_true rfl) ?_
  unfold f_X11_cheapestDay at h
  show ya_E X Y_X11_cheapestDay (ya_M X (some (.int rr), G, d) 0 0) 0 [(0, .ref (X.2.1 + 0)), (1, .int v1)] [] G d 0 0
  refine ya_iconst 0 (by decide) dX11_cheapestDay_0 ?_
  refine ya_istore_n [(2, .int 0), (0, .ref (X.2.1 + 0)), (1, .int v1)] (by decide) rfl dX11_cheapestDay_1 ?_
  refine ya_iconst 1 (by decide) dX11_cheapestDay_2 ?_
  refine ya_istore_n [(3, .int 1), (2, .int 0), (0, .ref (X.2.1 + 0)), (1, .int v1)] (by decide) rfl dX11_cheapestDay_3 ?_
  refine ya_sub [(0, .ref (X.2.1 + 0)), (1, .int v1), (2, .int 0), (3, .int 1)] [2, 3, 1, 0] rfl ?_
  refine w_X11_cheapestDay_L4 hG  ya_F _ _ h
set_option maxRecDepth 20000 in
theorem c_X11_sameAsAhead {X : ya_X} {G : ya_G} {v1 : Int32} {v2 : Int32} {d : ya_D} {rr : Int32} (hG : ya_Bk ya_sh ya_ln G 0) (h : f_X11_sameAsAhead v1 v2 d = some rr) : ya_Ct X yX11_sameAsAhead Y_X11_sameAsAhead [.ref (X.2.1 + 0), .int v1, .int v2] G d (some (.int rr), G, d) := by
  refine ya_ct (by decide +kernel) rfl rfl (Nat.le_of_ble_eq_true rfl) ?_
  unfold f_X11_sameAsAhead at h
  show ya_E X Y_X11_sameAsAhead (ya_M X (some (.int rr), G, d) 0 0) 0 [(0, .ref (X.2.1 + 0)), (1, .int v1), (2, .int v2)] [] G d 0 0
  refine ya_aload_n 0 rfl dX11_sameAsAhead_0 ?_
  refine ya_getR fo_X11_26 (hG.o0 0 rfl) (hG.lt0 0 (by decide)) (hG.l0 40 rfl) dX11_sameAsAhead_1 ?_
  refine ya_getR fo_X11_100 (hG.o0 24 rfl) (hG.lt0 24 (by decide)) (hG.l0 27 rfl) dX11_sameAsAhead_4 ?_
  refine ya_getR fo_X11_104 (hG.o0 25 rfl) (hG.lt0 25 (by decide)) (hG.l0 24 rfl) dX11_sameAsAhead_7 ?_
  refine ya_astore_n [(3, .ref (X.2.1 + 27)), (0, .ref (X.2.1 + 0)), (1, .int v1), (2, .int v2)] (by decide) rfl dX11_sameAsAhead_10 ?_
  refine ya_iload_n 3 rfl dX11_sameAsAhead_11 ?_
  refine ya_j0_s h (ya_E X Y_X11_sameAsAhead (ya_M X (some (.int rr), G, d) 0 0) 38 [] [] G d 0 0) (fun h => ?_) (fun k38 hk38 h => ?_)
  · refine ya_iconst 0 (by decide) dX11_sameAsAhead_38 ?_
    cases h
    exact ya_zret .boolean rfl rfl rfl rfl (by decide) rfl (Nat.le_refl _) dX11_sameAsAhead_39
  · refine ya_ifle 38 (by decide) dX11_sameAsAhead_12 (fun c => ?_) (fun c => ?_)
    · replace h := ya_itet h c
      refine ya_sub [] [] rfl ?_
      exact hk38  h
    · replace h := ya_itef h c
      refine ya_aload_n 0 rfl dX11_sameAsAhead_15 ?_
      refine ya_iload_n 2 rfl dX11_sameAsAhead_16 ?_
      refine ya_iload_n 3 rfl dX11_sameAsAhead_17 ?_
      obtain ⟨x18, e18, h⟩ := ya_ob h
      refine ya_callSi (S := [.ref (X.2.1 + 27)]) (c_X11_cell hG e18) m_X11_cell ⟨rfl, rfl⟩ ml_X11_110 rfl ⟨Nat.le_of_ble_eq_true rfl, Nat.le_of_ble_eq_true rfl⟩ (Nat.le_of_ble_eq_true rfl) ⟨Nat.le_refl _, Nat.le_refl _⟩ dX11_sameAsAhead_18 rfl ?_
      refine ya_iald (hG.s0 27 rfl) (hG.lt0 27 (by decide)) dX11_sameAsAhead_21 h (fun x21 h => ?_)
      refine ya_aload_n 0 rfl dX11_sameAsAhead_22 ?_
      refine ya_iload_n 2 rfl dX11_sameAsAhead_23 ?_
      refine ya_iload_n 3 rfl dX11_sameAsAhead_24 ?_
      refine ya_iconst 1 (by decide) dX11_sameAsAhead_25 ?_
      refine ya_isub dX11_sameAsAhead_26 ?_
      obtain ⟨x27, e27, h⟩ := ya_ob h
      refine ya_callSi (S := [.ref (X.2.1 + 27), .int x21]) (c_X11_cell hG e27) m_X11_cell ⟨rfl, rfl⟩ ml_X11_110 rfl ⟨Nat.le_of_ble_eq_true rfl, Nat.le_of_ble_eq_true rfl⟩ (Nat.le_of_ble_eq_true rfl) ⟨Nat.le_refl _, Nat.le_refl _⟩ dX11_sameAsAhead_27 rfl ?_
      refine ya_iald (hG.s0 27 rfl) (hG.lt0 27 (by decide)) dX11_sameAsAhead_30 h (fun x30 h => ?_)
      refine ya_icmp_ne 38 (by decide) dX11_sameAsAhead_31 (fun c => ?_) (fun c => ?_)
      · replace h := ya_itef h c
        refine ya_sub [] [] rfl ?_
        exact hk38  h
      · replace h := ya_itet h c
        refine ya_iconst 1 (by decide) dX11_sameAsAhead_34 ?_
        refine ya_goto 39 (by decide) dX11_sameAsAhead_35 ?_
        cases h
        exact ya_zret .boolean rfl rfl rfl rfl (by decide) rfl (Nat.le_refl _) dX11_sameAsAhead_39
set_option maxRecDepth 20000 in
theorem w_X11_priceChanges_L4 {X : ya_X} {G : ya_G} {v1 : Int32} {d : ya_D} {rr : Int32} (hG : ya_Bk ya_sh ya_ln G 0) : ∀ (n : Nat) (v2 : Int32) (v3 : Int32), f_X11_priceChanges_L4 v1 d n v2 v3 = some rr → ya_E X Y_X11_priceChanges (ya_M X (some (.int rr), G, d) 0 0) 4 [(0, .ref (X.2.1 + 0)), (1, .int v1), (2, .int v2), (3, .int v3)] [] G d 0 0 := by
  intro n
  induction n with
  | zero => intro v2 v3 h; cases h
  | succ n ih =>
    intro v2 v3 h
    rw [f_X11_priceChanges_L4] at h
    refine ya_iload_n 3 rfl dX11_priceChanges_4 ?_
    refine ya_aload_n 0 rfl dX11_priceChanges_5 ?_
    refine ya_getR fo_X11_26 (hG.o0 0 rfl) (hG.lt0 0 (by decide)) (hG.l0 40 rfl) dX11_priceChanges_6 ?_
    refine ya_getI fo_X11_192 (hG.o0 24 rfl) (hG.lt0 24 (by decide)) dX11_priceChanges_9 ?_
    refine ya_icmp_ge 33 (by decide) dX11_priceChanges_12 (fun c => ?_) (fun c => ?_)
    · replace h := ya_itet h c
      refine ya_iload_n 2 rfl dX11_priceChanges_33 ?_
      cases h
      exact ya_iret rfl rfl rfl rfl rfl (Nat.le_refl _) dX11_priceChanges_34
    · replace h := ya_itef h c
      refine ya_aload_n 0 rfl dX11_priceChanges_15 ?_
      refine ya_iload_n 1 rfl dX11_priceChanges_16 ?_
      refine ya_iload_n 3 rfl dX11_priceChanges_17 ?_
      obtain ⟨x18, e18, h⟩ := ya_ob h
      refine ya_callVi (S := []) (c_X11_sameAsAhead hG e18) m_X11_sameAsAhead ⟨rfl, rfl⟩ ml_X11_392 rfl ⟨Nat.le_of_ble_eq_true rfl, Nat.le_of_ble_eq_true rfl⟩ (Nat.le_of_ble_eq_true rfl) (hG.lt0 0 (by decide)) (hG.o0 0 rfl) (by decide) rfl rfl ⟨Nat.le_refl _, Nat.le_refl _⟩ dX11_priceChanges_18 rfl ?_
      refine ya_j1_s h (fun v2_27 => ya_E X Y_X11_priceChanges (ya_M X (some (.int rr), G, d) 0 0) 27 [(0, .ref (X.2.1 + 0)), (1, .int v1), (2, .int v2_27), (3, .int v3)] [] G d 0 0) (fun v2_27 h => ?_) (fun k27 hk27 h => ?_)
      · refine ya_iinc (v3 + 1) rfl 3 rfl [(3, .int (v3 + 1)), (0, .ref (X.2.1 + 0)), (1, .int v1), (2, .int v2_27)] (by decide) rfl dX11_priceChanges_27 ?_
        refine ya_goto 4 (by decide) dX11_priceChanges_30 ?_
        refine ya_sub [(0, .ref (X.2.1 + 0)), (1, .int v1), (2, .int v2_27), (3, .int (v3 + 1))] [1, 2, 3, 0] rfl ?_
        exact ih _ _ h
      · refine ya_ifne 27 (by decide) dX11_priceChanges_21 (fun c => ?_) (fun c => ?_)
        · replace h := ya_itef h c
          exact hk27 _ h
        · replace h := ya_itet h c
          refine ya_iinc (v2 + 1) rfl 2 rfl [(2, .int (v2 + 1)), (0, .ref (X.2.1 + 0)), (1, .int v1), (3, .int v3)] (by decide) rfl dX11_priceChanges_24 ?_
          refine ya_sub [(0, .ref (X.2.1 + 0)), (1, .int v1), (2, .int (v2 + 1)), (3, .int v3)] [1, 2, 0, 3] rfl ?_
          exact hk27 _ h
set_option maxRecDepth 20000 in
theorem c_X11_priceChanges {X : ya_X} {G : ya_G} {v1 : Int32} {d : ya_D} {rr : Int32} (hG : ya_Bk ya_sh ya_ln G 0) (h : f_X11_priceChanges v1 d = some rr) : ya_Ct X yX11_priceChanges Y_X11_priceChanges [.ref (X.2.1 + 0), .int v1] G d (some (.int rr), G, d) := by
  refine ya_ct (by decide +kernel) rfl rfl (Nat.le_of_ble_eq_true rfl) ?_
  unfold f_X11_priceChanges at h
  show ya_E X Y_X11_priceChanges (ya_M X (some (.int rr), G, d) 0 0) 0 [(0, .ref (X.2.1 + 0)), (1, .int v1)] [] G d 0 0
  refine ya_iconst 0 (by decide) dX11_priceChanges_0 ?_
  refine ya_istore_n [(2, .int 0), (0, .ref (X.2.1 + 0)), (1, .int v1)] (by decide) rfl dX11_priceChanges_1 ?_
  refine ya_iconst 1 (by decide) dX11_priceChanges_2 ?_
  refine ya_istore_n [(3, .int 1), (2, .int 0), (0, .ref (X.2.1 + 0)), (1, .int v1)] (by decide) rfl dX11_priceChanges_3 ?_
  refine ya_sub [(0, .ref (X.2.1 + 0)), (1, .int v1), (2, .int 0), (3, .int 1)] [2, 3, 1, 0] rfl ?_
  refine w_X11_priceChanges_L4 hG  ya_F _ _ h
set_option maxRecDepth 20000 in
theorem w_X11_longestAtOnePrice_L7 {X : ya_X} {G : ya_G} {v1 : Int32} {d : ya_D} {rr : Int32} (hG : ya_Bk ya_sh ya_ln G 0) : ∀ (n : Nat) (v2 : Int32) (v3 : Int32) (v4 : Int32), f_X11_longestAtOnePrice_L7 v1 d n v2 v3 v4 = some rr → ya_E X Y_X11_longestAtOnePrice (ya_M X (some (.int rr), G, d) 0 0) 7 [(0, .ref (X.2.1 + 0)), (1, .int v1), (2, .int v2), (3, .int v3), (4, .int v4)] [] G d 0 0 := by
  intro n
  induction n with
  | zero => intro v2 v3 v4 h; cases h
  | succ n ih =>
    intro v2 v3 v4 h
    rw [f_X11_longestAtOnePrice_L7] at h
    refine ya_iload 4 rfl dX11_longestAtOnePrice_7 ?_
    refine ya_aload_n 0 rfl dX11_longestAtOnePrice_9 ?_
    refine ya_getR fo_X11_26 (hG.o0 0 rfl) (hG.lt0 0 (by decide)) (hG.l0 40 rfl) dX11_longestAtOnePrice_10 ?_
    refine ya_getI fo_X11_192 (hG.o0 24 rfl) (hG.lt0 24 (by decide)) dX11_longestAtOnePrice_13 ?_
    refine ya_icmp_ge 49 (by decide) dX11_longestAtOnePrice_16 (fun c => ?_) (fun c => ?_)
    · replace h := ya_itet h c
      refine ya_iload_n 2 rfl dX11_longestAtOnePrice_49 ?_
      cases h
      exact ya_iret rfl rfl rfl rfl rfl (Nat.le_refl _) dX11_longestAtOnePrice_50
    · replace h := ya_itef h c
      refine ya_aload_n 0 rfl dX11_longestAtOnePrice_19 ?_
      refine ya_iload_n 1 rfl dX11_longestAtOnePrice_20 ?_
      refine ya_iload 4 rfl dX11_longestAtOnePrice_21 ?_
      obtain ⟨x23, e23, h⟩ := ya_ob h
      refine ya_callVi (S := []) (c_X11_sameAsAhead hG e23) m_X11_sameAsAhead ⟨rfl, rfl⟩ ml_X11_392 rfl ⟨Nat.le_of_ble_eq_true rfl, Nat.le_of_ble_eq_true rfl⟩ (Nat.le_of_ble_eq_true rfl) (hG.lt0 0 (by decide)) (hG.o0 0 rfl) (by decide) rfl rfl ⟨Nat.le_refl _, Nat.le_refl _⟩ dX11_longestAtOnePrice_23 rfl ?_
      refine ya_j1_s h (fun t0_36 => ya_E X Y_X11_longestAtOnePrice (ya_M X (some (.int rr), G, d) 0 0) 36 [(0, .ref (X.2.1 + 0)), (1, .int v1), (2, .int v2), (4, .int v4)] [.int t0_36] G d 0 0) (fun t0_36 h => ?_) (fun k36 hk36 h => ?_)
      · refine ya_istore_n [(3, .int t0_36), (0, .ref (X.2.1 + 0)), (1, .int v1), (2, .int v2), (4, .int v4)] (by decide) rfl dX11_longestAtOnePrice_36 ?_
        refine ya_iload_n 3 rfl dX11_longestAtOnePrice_37 ?_
        refine ya_iload_n 0 rfl dX11_longestAtOnePrice_38 ?_
        refine ya_mmax ml_X11_201 wm_max1 wm_max2 wm_max3 (by decide) (Nat.le_of_ble_eq_true rfl) ⟨Nat.le_refl _, Nat.le_refl _⟩ dX11_longestAtOnePrice_39 ?_
        refine ya_istore_n [(2, .int (ya_max v2 t0_36)), (3, .int t0_36), (0, .ref (X.2.1 + 0)), (1, .int v1), (4, .int v4)] (by decide) rfl dX11_longestAtOnePrice_42 ?_
        refine ya_iinc (v4 + 1) rfl 4 rfl [(4, .int (v4 + 1)), (2, .int (ya_max v2 t0_36)), (3, .int t0_36), (0, .ref (X.2.1 + 0)), (1, .int v1)] (by decide) rfl dX11_longestAtOnePrice_43 ?_
        refine ya_goto 7 (by decide) dX11_longestAtOnePrice_46 ?_
        refine ya_sub [(0, .ref (X.2.1 + 0)), (1, .int v1), (2, .int (ya_max v2 t0_36)), (3, .int t0_36), (4, .int (v4 + 1))] [3, 4, 1, 2, 0] rfl ?_
        exact ih _ _ _ h
      · refine ya_ifeq 35 (by decide) dX11_longestAtOnePrice_26 (fun c => ?_) (fun c => ?_)
        · replace h := ya_itet h c
          refine ya_iconst 1 (by decide) dX11_longestAtOnePrice_35 ?_
          refine ya_sub [(0, .ref (X.2.1 + 0)), (1, .int v1), (2, .int v2), (4, .int v4)] [0, 1, 2, 4] rfl ?_
          exact hk36 _ h
        · replace h := ya_itef h c
          refine ya_iload_n 3 rfl dX11_longestAtOnePrice_29 ?_
          refine ya_iconst 1 (by decide) dX11_longestAtOnePrice_30 ?_
          refine ya_iadd dX11_longestAtOnePrice_31 ?_
          refine ya_goto 36 (by decide) dX11_longestAtOnePrice_32 ?_
          refine ya_sub [(0, .ref (X.2.1 + 0)), (1, .int v1), (2, .int v2), (4, .int v4)] [0, 1, 2, 4] rfl ?_
          exact hk36 _ h
set_option maxRecDepth 20000 in
theorem c_X11_longestAtOnePrice {X : ya_X} {G : ya_G} {v1 : Int32} {d : ya_D} {rr : Int32} (hG : ya_Bk ya_sh ya_ln G 0) (h : f_X11_longestAtOnePrice v1 d = some rr) : ya_Ct X yX11_longestAtOnePrice Y_X11_longestAtOnePrice [.ref (X.2.1 + 0), .int v1] G d (some (.int rr), G, d) := by
  refine ya_ct (by decide +kernel) rfl rfl (Nat.le_of_ble_eq_true rfl) ?_
  unfold f_X11_longestAtOnePrice at h
  show ya_E X Y_X11_longestAtOnePrice (ya_M X (some (.int rr), G, d) 0 0) 0 [(0, .ref (X.2.1 + 0)), (1, .int v1)] [] G d 0 0
  refine ya_iconst 0 (by decide) dX11_longestAtOnePrice_0 ?_
  refine ya_istore_n [(2, .int 0), (0, .ref (X.2.1 + 0)), (1, .int v1)] (by decide) rfl dX11_longestAtOnePrice_1 ?_
  refine ya_iconst 0 (by decide) dX11_longestAtOnePrice_2 ?_
  refine ya_istore_n [(3, .int 0), (2, .int 0), (0, .ref (X.2.1 + 0)), (1, .int v1)] (by decide) rfl dX11_longestAtOnePrice_3 ?_
  refine ya_iconst 0 (by decide) dX11_longestAtOnePrice_4 ?_
  refine ya_istore [(4, .int 0), (3, .int 0), (2, .int 0), (0, .ref (X.2.1 + 0)), (1, .int v1)] (by decide) rfl dX11_longestAtOnePrice_5 ?_
  refine ya_sub [(0, .ref (X.2.1 + 0)), (1, .int v1), (2, .int 0), (3, .int 0), (4, .int 0)] [3, 4, 2, 1, 0] rfl ?_
  refine w_X11_longestAtOnePrice_L7 hG  ya_F _ _ _ h
set_option maxRecDepth 20000 in
theorem c_X11_shape {X : ya_X} {G : ya_G} {v1 : Int32} {v2 : Int32} {d : ya_D} {rr : Int32} (hG : ya_Bk ya_sh ya_ln G 0) (h : f_X11_shape v1 v2 d = some rr) : ya_Ct X yX11_shape Y_X11_shape [.ref (X.2.1 + 0), .int v1, .int v2] G d (some (.int rr), G, d) := by
  refine ya_ct (by decide +kernel) rfl rfl (Nat.le_of_ble_eq_true rfl) ?_
  unfold f_X11_shape at h
  show ya_E X Y_X11_shape (ya_M X (some (.int rr), G, d) 0 0) 0 [(0, .ref (X.2.1 + 0)), (1, .int v1), (2, .int v2)] [] G d 0 0
  refine ya_aload_n 0 rfl dX11_shape_0 ?_
  refine ya_iload_n 1 rfl dX11_shape_1 ?_
  obtain ⟨x2, e2, h⟩ := ya_ob h
  refine ya_callVi (S := []) (c_X11_isThing hG e2) m_X11_isThing ⟨rfl, rfl⟩ ml_X11_303 rfl ⟨Nat.le_of_ble_eq_true rfl, Nat.le_of_ble_eq_true rfl⟩ (Nat.le_of_ble_eq_true rfl) (hG.lt0 0 (by decide)) (hG.o0 0 rfl) (by decide) rfl rfl ⟨Nat.le_refl _, Nat.le_refl _⟩ dX11_shape_2 rfl ?_
  refine ya_ifne 11 (by decide) dX11_shape_5 (fun c => ?_) (fun c => ?_)
  · replace h := ya_itef h c
    refine ya_iload_n 2 rfl dX11_shape_11 ?_
    rcases ya_ite h with ⟨c12_0, h⟩ | ⟨n12_0, h⟩
    · refine ya_tswIn 0 44 c12_0 (by decide) (by decide) rfl (by decide) dX11_shape_12 ?_
      refine ya_aload_n 0 rfl dX11_shape_44 ?_
      refine ya_iload_n 1 rfl dX11_shape_45 ?_
      obtain ⟨x46, e46, h⟩ := ya_ob h
      refine ya_callVi (S := []) (c_X11_dearestDay hG e46) m_X11_dearestDay ⟨rfl, rfl⟩ ml_X11_314 rfl ⟨Nat.le_of_ble_eq_true rfl, Nat.le_of_ble_eq_true rfl⟩ (Nat.le_of_ble_eq_true rfl) (hG.lt0 0 (by decide)) (hG.o0 0 rfl) (by decide) rfl rfl ⟨Nat.le_refl _, Nat.le_refl _⟩ dX11_shape_46 rfl ?_
      cases h
      exact ya_iret rfl rfl rfl rfl rfl (Nat.le_refl _) dX11_shape_49
    · rcases ya_ite h with ⟨c12_1, h⟩ | ⟨n12_1, h⟩
      · refine ya_tswIn 1 50 c12_1 (by decide) (by decide) rfl (by decide) dX11_shape_12 ?_
        refine ya_aload_n 0 rfl dX11_shape_50 ?_
        refine ya_iload_n 1 rfl dX11_shape_51 ?_
        obtain ⟨x52, e52, h⟩ := ya_ob h
        refine ya_callVi (S := []) (c_X11_cheapestDay hG e52) m_X11_cheapestDay ⟨rfl, rfl⟩ ml_X11_317 rfl ⟨Nat.le_of_ble_eq_true rfl, Nat.le_of_ble_eq_true rfl⟩ (Nat.le_of_ble_eq_true rfl) (hG.lt0 0 (by decide)) (hG.o0 0 rfl) (by decide) rfl rfl ⟨Nat.le_refl _, Nat.le_refl _⟩ dX11_shape_52 rfl ?_
        cases h
        exact ya_iret rfl rfl rfl rfl rfl (Nat.le_refl _) dX11_shape_55
      · rcases ya_ite h with ⟨c12_2, h⟩ | ⟨n12_2, h⟩
        · refine ya_tswIn 2 56 c12_2 (by decide) (by decide) rfl (by decide) dX11_shape_12 ?_
          refine ya_aload_n 0 rfl dX11_shape_56 ?_
          refine ya_iload_n 1 rfl dX11_shape_57 ?_
          obtain ⟨x58, e58, h⟩ := ya_ob h
          refine ya_callVi (S := []) (c_X11_priceChanges hG e58) m_X11_priceChanges ⟨rfl, rfl⟩ ml_X11_320 rfl ⟨Nat.le_of_ble_eq_true rfl, Nat.le_of_ble_eq_true rfl⟩ (Nat.le_of_ble_eq_true rfl) (hG.lt0 0 (by decide)) (hG.o0 0 rfl) (by decide) rfl rfl ⟨Nat.le_refl _, Nat.le_refl _⟩ dX11_shape_58 rfl ?_
          cases h
          exact ya_iret rfl rfl rfl rfl rfl (Nat.le_refl _) dX11_shape_61
        · rcases ya_ite h with ⟨c12_3, h⟩ | ⟨n12_3, h⟩
          · refine ya_tswIn 3 62 c12_3 (by decide) (by decide) rfl (by decide) dX11_shape_12 ?_
            refine ya_aload_n 0 rfl dX11_shape_62 ?_
            refine ya_iload_n 1 rfl dX11_shape_63 ?_
            obtain ⟨x64, e64, h⟩ := ya_ob h
            refine ya_callVi (S := []) (c_X11_longestAtOnePrice hG e64) m_X11_longestAtOnePrice ⟨rfl, rfl⟩ ml_X11_323 rfl ⟨Nat.le_of_ble_eq_true rfl, Nat.le_of_ble_eq_true rfl⟩ (Nat.le_of_ble_eq_true rfl) (hG.lt0 0 (by decide)) (hG.o0 0 rfl) (by decide) rfl rfl ⟨Nat.le_refl _, Nat.le_refl _⟩ dX11_shape_64 rfl ?_
            cases h
            exact ya_iret rfl rfl rfl rfl rfl (Nat.le_refl _) dX11_shape_67
          · refine ya_tswOut 68 (ya_out [0, 1, 2, 3] (List.forall_mem_cons.mpr ⟨n12_0, (List.forall_mem_cons.mpr ⟨n12_1, (List.forall_mem_cons.mpr ⟨n12_2, (List.forall_mem_cons.mpr ⟨n12_3, (fun _ hq => absurd hq List.not_mem_nil)⟩)⟩)⟩)⟩) (by decide)) (by decide) dX11_shape_12 ?_
            refine ya_bipush (-2) (by decide) dX11_shape_68 ?_
            cases h
            exact ya_iret rfl rfl rfl rfl rfl (Nat.le_refl _) dX11_shape_70
  · replace h := ya_itet h c
    refine ya_bipush (-2) (by decide) dX11_shape_8 ?_
    cases h
    exact ya_iret rfl rfl rfl rfl rfl (Nat.le_refl _) dX11_shape_10
set_option maxRecDepth 20000 in
theorem w_X11_dearer_L29 {X : ya_X} {G : ya_G} {v1 : Int32} {v2 : Int32} {d : ya_D} {rr : Int32} (hG : ya_Bk ya_sh ya_ln G 0) : ∀ (n : Nat) (v3 : Int32) (v4 : Int32), f_X11_dearer_L29 v1 v2 d n v3 v4 = some rr → ya_E X Y_X11_dearer (ya_M X (some (.int rr), G, d) 0 0) 29 [(0, .ref (X.2.1 + 0)), (1, .int v1), (2, .int v2), (3, .int v3), (4, .int v4)] [] G d 0 0 := by
  intro n
  induction n with
  | zero => intro v3 v4 h; cases h
  | succ n ih =>
    intro v3 v4 h
    rw [f_X11_dearer_L29] at h
    refine ya_iload 4 rfl dX11_dearer_29 ?_
    refine ya_aload_n 0 rfl dX11_dearer_31 ?_
    refine ya_getR fo_X11_26 (hG.o0 0 rfl) (hG.lt0 0 (by decide)) (hG.l0 40 rfl) dX11_dearer_32 ?_
    refine ya_getI fo_X11_192 (hG.o0 24 rfl) (hG.lt0 24 (by decide)) dX11_dearer_35 ?_
    refine ya_icmp_ge 87 (by decide) dX11_dearer_38 (fun c => ?_) (fun c => ?_)
    · replace h := ya_itet h c
      refine ya_iload_n 3 rfl dX11_dearer_87 ?_
      cases h
      exact ya_iret rfl rfl rfl rfl rfl (Nat.le_refl _) dX11_dearer_88
    · replace h := ya_itef h c
      refine ya_aload_n 0 rfl dX11_dearer_41 ?_
      refine ya_getR fo_X11_26 (hG.o0 0 rfl) (hG.lt0 0 (by decide)) (hG.l0 40 rfl) dX11_dearer_42 ?_
      refine ya_getR fo_X11_100 (hG.o0 24 rfl) (hG.lt0 24 (by decide)) (hG.l0 27 rfl) dX11_dearer_45 ?_
      refine ya_getR fo_X11_104 (hG.o0 25 rfl) (hG.lt0 25 (by decide)) (hG.l0 24 rfl) dX11_dearer_48 ?_
      refine ya_iload_n 1 rfl dX11_dearer_51 ?_
      refine ya_iload 4 rfl dX11_dearer_52 ?_
      obtain ⟨x54, e54, h⟩ := ya_ob h
      refine ya_callSi (S := [.ref (X.2.1 + 27)]) (c_X11_cell hG e54) m_X11_cell ⟨rfl, rfl⟩ ml_X11_110 rfl ⟨Nat.le_of_ble_eq_true rfl, Nat.le_of_ble_eq_true rfl⟩ (Nat.le_of_ble_eq_true rfl) ⟨Nat.le_refl _, Nat.le_refl _⟩ dX11_dearer_54 rfl ?_
      refine ya_iald (hG.s0 27 rfl) (hG.lt0 27 (by decide)) dX11_dearer_57 h (fun x57 h => ?_)
      refine ya_aload_n 0 rfl dX11_dearer_58 ?_
      refine ya_getR fo_X11_26 (hG.o0 0 rfl) (hG.lt0 0 (by decide)) (hG.l0 40 rfl) dX11_dearer_59 ?_
      refine ya_getR fo_X11_100 (hG.o0 24 rfl) (hG.lt0 24 (by decide)) (hG.l0 27 rfl) dX11_dearer_62 ?_
      refine ya_getR fo_X11_104 (hG.o0 25 rfl) (hG.lt0 25 (by decide)) (hG.l0 24 rfl) dX11_dearer_65 ?_
      refine ya_iload_n 2 rfl dX11_dearer_68 ?_
      refine ya_iload 4 rfl dX11_dearer_69 ?_
      obtain ⟨x71, e71, h⟩ := ya_ob h
      refine ya_callSi (S := [.ref (X.2.1 + 27), .int x57]) (c_X11_cell hG e71) m_X11_cell ⟨rfl, rfl⟩ ml_X11_110 rfl ⟨Nat.le_of_ble_eq_true rfl, Nat.le_of_ble_eq_true rfl⟩ (Nat.le_of_ble_eq_true rfl) ⟨Nat.le_refl _, Nat.le_refl _⟩ dX11_dearer_71 rfl ?_
      refine ya_iald (hG.s0 27 rfl) (hG.lt0 27 (by decide)) dX11_dearer_74 h (fun x74 h => ?_)
      refine ya_j1_s h (fun v3_81 => ya_E X Y_X11_dearer (ya_M X (some (.int rr), G, d) 0 0) 81 [(0, .ref (X.2.1 + 0)), (1, .int v1), (2, .int v2), (3, .int v3_81), (4, .int v4)] [] G d 0 0) (fun v3_81 h => ?_) (fun k81 hk81 h => ?_)
      · refine ya_iinc (v4 + 1) rfl 4 rfl [(4, .int (v4 + 1)), (0, .ref (X.2.1 + 0)), (1, .int v1), (2, .int v2), (3, .int v3_81)] (by decide) rfl dX11_dearer_81 ?_
        refine ya_goto 29 (by decide) dX11_dearer_84 ?_
        refine ya_sub [(0, .ref (X.2.1 + 0)), (1, .int v1), (2, .int v2), (3, .int v3_81), (4, .int (v4 + 1))] [1, 2, 3, 4, 0] rfl ?_
        exact ih _ _ h
      · refine ya_icmp_le 81 (by decide) dX11_dearer_75 (fun c => ?_) (fun c => ?_)
        · replace h := ya_itet h c
          exact hk81 _ h
        · replace h := ya_itef h c
          refine ya_iinc (v3 + 1) rfl 3 rfl [(3, .int (v3 + 1)), (0, .ref (X.2.1 + 0)), (1, .int v1), (2, .int v2), (4, .int v4)] (by decide) rfl dX11_dearer_78 ?_
          refine ya_sub [(0, .ref (X.2.1 + 0)), (1, .int v1), (2, .int v2), (3, .int (v3 + 1)), (4, .int v4)] [1, 2, 3, 0, 4] rfl ?_
          exact hk81 _ h
set_option maxRecDepth 20000 in
theorem c_X11_dearer {X : ya_X} {G : ya_G} {v1 : Int32} {v2 : Int32} {d : ya_D} {rr : Int32} (hG : ya_Bk ya_sh ya_ln G 0) (h : f_X11_dearer v1 v2 d = some rr) : ya_Ct X yX11_dearer Y_X11_dearer [.ref (X.2.1 + 0), .int v1, .int v2] G d (some (.int rr), G, d) := by
  refine ya_ct (by decide +kernel) rfl rfl (Nat.le_of_ble_eq_true rfl) ?_
  unfold f_X11_dearer at h
  show ya_E X Y_X11_dearer (ya_M X (some (.int rr), G, d) 0 0) 0 [(0, .ref (X.2.1 + 0)), (1, .int v1), (2, .int v2)] [] G d 0 0
  refine ya_aload_n 0 rfl dX11_dearer_0 ?_
  refine ya_iload_n 1 rfl dX11_dearer_1 ?_
  obtain ⟨x2, e2, h⟩ := ya_ob h
  refine ya_callVi (S := []) (c_X11_isThing hG e2) m_X11_isThing ⟨rfl, rfl⟩ ml_X11_303 rfl ⟨Nat.le_of_ble_eq_true rfl, Nat.le_of_ble_eq_true rfl⟩ (Nat.le_of_ble_eq_true rfl) (hG.lt0 0 (by decide)) (hG.o0 0 rfl) (by decide) rfl rfl ⟨Nat.le_refl _, Nat.le_refl _⟩ dX11_dearer_2 rfl ?_
  refine ya_j0_s h (ya_E X Y_X11_dearer (ya_M X (some (.int rr), G, d) 0 0) 21 [] [] G d 0 0) (fun h => ?_) (fun k21 hk21 h => ?_)
  · refine ya_bipush (-2) (by decide) dX11_dearer_21 ?_
    cases h
    exact ya_iret rfl rfl rfl rfl rfl (Nat.le_refl _) dX11_dearer_23
  · refine ya_ifeq 21 (by decide) dX11_dearer_5 (fun c => ?_) (fun c => ?_)
    · replace h := ya_itet h c
      refine ya_sub [] [] rfl ?_
      exact hk21  h
    · replace h := ya_itef h c
      refine ya_aload_n 0 rfl dX11_dearer_8 ?_
      refine ya_iload_n 2 rfl dX11_dearer_9 ?_
      obtain ⟨x10, e10, h⟩ := ya_ob h
      refine ya_callVi (S := []) (c_X11_isThing hG e10) m_X11_isThing ⟨rfl, rfl⟩ ml_X11_303 rfl ⟨Nat.le_of_ble_eq_true rfl, Nat.le_of_ble_eq_true rfl⟩ (Nat.le_of_ble_eq_true rfl) (hG.lt0 0 (by decide)) (hG.o0 0 rfl) (by decide) rfl rfl ⟨Nat.le_refl _, Nat.le_refl _⟩ dX11_dearer_10 rfl ?_
      refine ya_ifeq 21 (by decide) dX11_dearer_13 (fun c => ?_) (fun c => ?_)
      · replace h := ya_itet h c
        refine ya_sub [] [] rfl ?_
        exact hk21  h
      · replace h := ya_itef h c
        refine ya_iload_n 1 rfl dX11_dearer_16 ?_
        refine ya_iload_n 2 rfl dX11_dearer_17 ?_
        refine ya_icmp_ne 24 (by decide) dX11_dearer_18 (fun c => ?_) (fun c => ?_)
        · replace h := ya_itef h c
          refine ya_iconst 0 (by decide) dX11_dearer_24 ?_
          refine ya_istore_n [(3, .int 0), (0, .ref (X.2.1 + 0)), (1, .int v1), (2, .int v2)] (by decide) rfl dX11_dearer_25 ?_
          refine ya_iconst 0 (by decide) dX11_dearer_26 ?_
          refine ya_istore [(4, .int 0), (3, .int 0), (0, .ref (X.2.1 + 0)), (1, .int v1), (2, .int v2)] (by decide) rfl dX11_dearer_27 ?_
          refine ya_sub [(0, .ref (X.2.1 + 0)), (1, .int v1), (2, .int v2), (3, .int 0), (4, .int 0)] [2, 3, 4, 1, 0] rfl ?_
          refine w_X11_dearer_L29 hG  ya_F _ _ h
        · replace h := ya_itet h c
          refine ya_sub [] [] rfl ?_
          exact hk21  h
set_option maxRecDepth 20000 in
theorem c_X11_come {X : ya_X} {G : ya_G} {v1 : Int32} {v2 : Int32} {v3 : Int32} {d : ya_D} {rr : Int32} (hG : ya_Bk ya_sh ya_ln G 0) (h : f_X11_come v1 v2 v3 d = some rr) : ya_Ct X yX11_come Y_X11_come [.ref (X.2.1 + 0), .int v1, .int v2, .int v3] G d (some (.int rr), G, d) := by
  refine ya_ct (by decide +kernel) rfl rfl (Nat.le_of_ble_eq_true rfl) ?_
  unfold f_X11_come at h
  show ya_E X Y_X11_come (ya_M X (some (.int rr), G, d) 0 0) 0 [(0, .ref (X.2.1 + 0)), (1, .int v1), (2, .int v2), (3, .int v3)] [] G d 0 0
  refine ya_aload_n 0 rfl dX11_come_0 ?_
  refine ya_iload_n 1 rfl dX11_come_1 ?_
  refine ya_iload_n 2 rfl dX11_come_2 ?_
  obtain ⟨x3, e3, h⟩ := ya_ob h
  refine ya_callVi (S := []) (c_X11_isThingDay hG e3) m_X11_isThingDay ⟨rfl, rfl⟩ ml_X11_96 rfl ⟨Nat.le_of_ble_eq_true rfl, Nat.le_of_ble_eq_true rfl⟩ (Nat.le_of_ble_eq_true rfl) (hG.lt0 0 (by decide)) (hG.o0 0 rfl) (by decide) rfl rfl ⟨Nat.le_refl _, Nat.le_refl _⟩ dX11_come_3 rfl ?_
  refine ya_j0_s h (ya_E X Y_X11_come (ya_M X (some (.int rr), G, d) 0 0) 19 [] [] G d 0 0) (fun h => ?_) (fun k19 hk19 h => ?_)
  · refine ya_bipush (-2) (by decide) dX11_come_19 ?_
    cases h
    exact ya_iret rfl rfl rfl rfl rfl (Nat.le_refl _) dX11_come_21
  · refine ya_ifeq 19 (by decide) dX11_come_6 (fun c => ?_) (fun c => ?_)
    · replace h := ya_itet h c
      refine ya_sub [] [] rfl ?_
      exact hk19  h
    · replace h := ya_itef h c
      refine ya_iload_n 3 rfl dX11_come_9 ?_
      refine ya_iconst 0 (by decide) dX11_come_10 ?_
      refine ya_bipush 99 (by decide) dX11_come_11 ?_
      obtain ⟨x13, e13, h⟩ := ya_ob h
      refine ya_callSi (S := []) (c_X11_within hG e13) m_X11_within ⟨rfl, rfl⟩ ml_X11_213 rfl ⟨Nat.le_of_ble_eq_true rfl, Nat.le_of_ble_eq_true rfl⟩ (Nat.le_of_ble_eq_true rfl) ⟨Nat.le_refl _, Nat.le_refl _⟩ dX11_come_13 rfl ?_
      refine ya_ifne 22 (by decide) dX11_come_16 (fun c => ?_) (fun c => ?_)
      · replace h := ya_itef h c
        refine ya_aload_n 0 rfl dX11_come_22 ?_
        refine ya_getR fo_X11_26 (hG.o0 0 rfl) (hG.lt0 0 (by decide)) (hG.l0 40 rfl) dX11_come_23 ?_
        refine ya_getR fo_X11_168 (hG.o0 24 rfl) (hG.lt0 24 (by decide)) (hG.l0 39 rfl) dX11_come_26 ?_
        refine ya_iload_n 1 rfl dX11_come_29 ?_
        refine ya_iload_n 2 rfl dX11_come_30 ?_
        refine ya_iload_n 3 rfl dX11_come_31 ?_
        obtain ⟨x32, e32, h⟩ := ya_ob h
        refine ya_callVi (S := []) (c_X1_countComing hG (bk_0_35 hG) e32) m_X1_countComing ⟨rfl, rfl⟩ ml_X11_231 rfl ⟨Nat.le_of_ble_eq_true rfl, Nat.le_of_ble_eq_true rfl⟩ (Nat.le_of_ble_eq_true rfl) (hG.lt0 35 (by decide)) (hG.o0 35 rfl) (by decide) rfl rfl ⟨Nat.le_refl _, Nat.le_refl _⟩ dX11_come_32 rfl ?_
        cases h
        exact ya_iret rfl rfl rfl rfl rfl (Nat.le_refl _) dX11_come_35
      · replace h := ya_itet h c
        refine ya_sub [] [] rfl ?_
        exact hk19  h
set_option maxRecDepth 20000 in
theorem c_X11_isSlot {X : ya_X} {G : ya_G} {v0 : Int32} {d : ya_D} {rr : Int32} (hG : ya_Bk ya_sh ya_ln G 0) (h : f_X11_isSlot v0 = some rr) : ya_Ct X yX11_isSlot Y_X11_isSlot [.int v0] G d (some (.int rr), G, d) := by
  refine ya_ct (by decide +kernel) rfl rfl (Nat.le_of_ble_eq_true rfl) ?_
  unfold f_X11_isSlot at h
  show ya_E X Y_X11_isSlot (ya_M X (some (.int rr), G, d) 0 0) 0 [(0, .int v0)] [] G d 0 0
  refine ya_iload_n 0 rfl dX11_isSlot_0 ?_
  refine ya_j0_s h (ya_E X Y_X11_isSlot (ya_M X (some (.int rr), G, d) 0 0) 13 [] [] G d 0 0) (fun h => ?_) (fun k13 hk13 h => ?_)
  · refine ya_iconst 0 (by decide) dX11_isSlot_13 ?_
    cases h
    exact ya_zret .boolean rfl rfl rfl rfl (by decide) rfl (Nat.le_refl _) dX11_isSlot_14
  · refine ya_iflt 13 (by decide) dX11_isSlot_1 (fun c => ?_) (fun c => ?_)
    · replace h := ya_itet h c
      refine ya_sub [] [] rfl ?_
      exact hk13  h
    · replace h := ya_itef h c
      refine ya_iload_n 0 rfl dX11_isSlot_4 ?_
      refine ya_iconst 4 (by decide) dX11_isSlot_5 ?_
      refine ya_icmp_ge 13 (by decide) dX11_isSlot_6 (fun c => ?_) (fun c => ?_)
      · replace h := ya_itet h c
        refine ya_sub [] [] rfl ?_
        exact hk13  h
      · replace h := ya_itef h c
        refine ya_iconst 1 (by decide) dX11_isSlot_9 ?_
        refine ya_goto 14 (by decide) dX11_isSlot_10 ?_
        cases h
        exact ya_zret .boolean rfl rfl rfl rfl (by decide) rfl (Nat.le_refl _) dX11_isSlot_14
set_option maxRecDepth 20000 in
theorem w_X11_refuseCrowds_L38 {X : ya_X} {G : ya_G} {q15 : Nat} {d : ya_D} {rr : Int32} {e111 : Option Int32} (hG : ya_Bk ya_sh ya_ln G 0) (hdy : ya_Dy G) (h_q15 : ya_Bk shX4 lnX4 G q15) (he111 : e111  = some rr → ya_E X Y_X11_refuseCrowds (ya_M X (some (.int rr), G, d) 0 0) 111 [] [] G d 0 0) : ∀ (n : Nat) (v3 : Int32), f_X11_refuseCrowds_L38 G q15 d e111 n v3 = some rr → ya_E X Y_X11_refuseCrowds (ya_M X (some (.int rr), G, d) 0 0) 38 [(0, .ref (X.2.1 + 0)), (2, .ref (X.2.1 + q15)), (3, .int v3)] [] G d 0 0 := by
  intro n
  induction n with
  | zero => intro v3 h; cases h
  | succ n ih =>
    intro v3 h
    rw [f_X11_refuseCrowds_L38] at h
    refine ya_iload_n 2 rfl dX11_refuseCrowds_38 ?_
    refine ya_iconst 1 (by decide) dX11_refuseCrowds_39 ?_
    refine ya_iadd dX11_refuseCrowds_40 ?_
    refine ya_aload_n 1 rfl dX11_refuseCrowds_41 ?_
    refine ya_getI fo_X11_332 (h_q15.o 0 rfl) (h_q15.lt 0 (by decide)) dX11_refuseCrowds_42 ?_
    refine ya_icmp_ge 120 (by decide) dX11_refuseCrowds_45 (fun c => ?_) (fun c => ?_)
    · replace h := ya_itet h c
      refine ya_iconst 0 (by decide) dX11_refuseCrowds_120 ?_
      cases h
      exact ya_iret rfl rfl rfl rfl rfl (Nat.le_refl _) dX11_refuseCrowds_121
    · replace h := ya_itef h c
      refine ya_aload_n 1 rfl dX11_refuseCrowds_48 ?_
      refine ya_getR fo_X11_333 (h_q15.o 0 rfl) (h_q15.lt 0 (by decide)) (h_q15.l 0 rfl) dX11_refuseCrowds_49 ?_
      refine ya_iload_n 2 rfl dX11_refuseCrowds_52 ?_
      refine ya_lald (h_q15.s 1 rfl) (h_q15.lt 1 (by decide)) dX11_refuseCrowds_53 h (fun x53 h => ?_)
      refine ya_lstore [(4, .long x53), (0, .ref (X.2.1 + 0)), (2, .ref (X.2.1 + q15)), (3, .int v3)] (by decide) rfl dX11_refuseCrowds_54 ?_
      refine ya_aload_n 2 rfl dX11_refuseCrowds_56 ?_
      refine ya_getR fo_X11_333 (h_q15.o 0 rfl) (h_q15.lt 0 (by decide)) (h_q15.l 0 rfl) dX11_refuseCrowds_57 ?_
      refine ya_iload_n 3 rfl dX11_refuseCrowds_60 ?_
      refine ya_iconst 1 (by decide) dX11_refuseCrowds_61 ?_
      refine ya_iadd dX11_refuseCrowds_62 ?_
      refine ya_lald (h_q15.s 1 rfl) (h_q15.lt 1 (by decide)) dX11_refuseCrowds_63 h (fun x63 h => ?_)
      refine ya_lstore [(6, .long x63), (4, .long x53), (0, .ref (X.2.1 + 0)), (2, .ref (X.2.1 + q15)), (3, .int v3)] (by decide) rfl dX11_refuseCrowds_64 ?_
      refine ya_lload 1 rfl dX11_refuseCrowds_66 ?_
      refine ya_lconst 0 rfl dX11_refuseCrowds_68 ?_
      refine ya_lif_lt 111 (by decide) dX11_refuseCrowds_69 dX11_refuseCrowds_70 (fun c => ?_) (fun c => ?_)
      · replace h := ya_itet h c
        refine ya_sub [] [] rfl ?_
        exact he111  h
      · replace h := ya_itef h c
        refine ya_lload 1 rfl dX11_refuseCrowds_73 ?_
        refine ya_aload_n 2 rfl dX11_refuseCrowds_75 ?_
        refine ya_getR fo_X11_26 (hG.o0 0 rfl) (hG.lt0 0 (by decide)) (hG.l0 40 rfl) dX11_refuseCrowds_76 ?_
        refine ya_getR fo_X11_100 (hG.o0 24 rfl) (hG.lt0 24 (by decide)) (hG.l0 27 rfl) dX11_refuseCrowds_79 ?_
        refine ya_getI fo_X11_342 (hG.o0 25 rfl) (hG.lt0 25 (by decide)) dX11_refuseCrowds_82 ?_
        refine ya_i2l dX11_refuseCrowds_85 ?_
        refine ya_lif_ge 111 (by decide) dX11_refuseCrowds_86 dX11_refuseCrowds_87 (fun c => ?_) (fun c => ?_)
        · replace h := ya_itet h c
          refine ya_sub [] [] rfl ?_
          exact he111  h
        · replace h := ya_itef h c
          refine ya_lload 0 rfl dX11_refuseCrowds_90 ?_
          refine ya_lconst 0 rfl dX11_refuseCrowds_92 ?_
          refine ya_lif_lt 111 (by decide) dX11_refuseCrowds_93 dX11_refuseCrowds_94 (fun c => ?_) (fun c => ?_)
          · replace h := ya_itet h c
            refine ya_sub [] [] rfl ?_
            exact he111  h
          · replace h := ya_itef h c
            refine ya_lload 0 rfl dX11_refuseCrowds_97 ?_
            refine ya_aload_n 2 rfl dX11_refuseCrowds_99 ?_
            refine ya_getR fo_X11_26 (hG.o0 0 rfl) (hG.lt0 0 (by decide)) (hG.l0 40 rfl) dX11_refuseCrowds_100 ?_
            refine ya_getI fo_X11_192 (hG.o0 24 rfl) (hG.lt0 24 (by decide)) dX11_refuseCrowds_103 ?_
            refine ya_i2l dX11_refuseCrowds_106 ?_
            refine ya_lif_lt 114 (by decide) dX11_refuseCrowds_107 dX11_refuseCrowds_108 (fun c => ?_) (fun c => ?_)
            · replace h := ya_itet h c
              refine ya_iinc (v3 + 3) rfl 4 rfl [(3, .int (v3 + 3)), (6, .long x63), (4, .long x53), (0, .ref (X.2.1 + 0)), (2, .ref (X.2.1 + q15))] (by decide) rfl dX11_refuseCrowds_114 ?_
              refine ya_goto 38 (by decide) dX11_refuseCrowds_117 ?_
              refine ya_sub [(0, .ref (X.2.1 + 0)), (2, .ref (X.2.1 + q15)), (3, .int (v3 + 3))] [3, 4, 0] rfl ?_
              exact ih _ h
            · replace h := ya_itef h c
              refine ya_sub [] [] rfl ?_
              exact he111  h
set_option maxRecDepth 20000 in
theorem c_X11_refuseCrowds {X : ya_X} {G : ya_G} {v1 : Int32} {d : ya_D} {rr : Int32} (hG : ya_Bk ya_sh ya_ln G 0) (hdy : ya_Dy G) (h : f_X11_refuseCrowds G v1 d = some rr) : ya_Ct X yX11_refuseCrowds Y_X11_refuseCrowds [.ref (X.2.1 + 0), .int v1] G d (some (.int rr), G, d) := by
  refine ya_ct (by decide +kernel) rfl rfl (Nat.le_of_ble_eq_true rfl) ?_
  unfold f_X11_refuseCrowds at h
  show ya_E X Y_X11_refuseCrowds (ya_M X (some (.int rr), G, d) 0 0) 0 [(0, .ref (X.2.1 + 0)), (1, .int v1)] [] G d 0 0
  refine ya_iload_n 1 rfl dX11_refuseCrowds_0 ?_
  obtain ⟨x1, e1, h⟩ := ya_ob h
  refine ya_callSi (S := []) (c_X11_isSlot hG e1) m_X11_isSlot ⟨rfl, rfl⟩ ml_X11_347 rfl ⟨Nat.le_of_ble_eq_true rfl, Nat.le_of_ble_eq_true rfl⟩ (Nat.le_of_ble_eq_true rfl) ⟨Nat.le_refl _, Nat.le_refl _⟩ dX11_refuseCrowds_1 rfl ?_
  refine ya_ifne 10 (by decide) dX11_refuseCrowds_4 (fun c => ?_) (fun c => ?_)
  · replace h := ya_itef h c
    refine ya_aload_n 0 rfl dX11_refuseCrowds_10 ?_
    refine ya_getR fo_X11_60 (hG.o0 0 rfl) (hG.lt0 0 (by decide)) (hG.l0 81 rfl) dX11_refuseCrowds_11 ?_
    refine ya_iload_n 1 rfl dX11_refuseCrowds_14 ?_
    refine ya_lkb (C := "YearAgo$Row") (hG.s0 82 rfl) (by decide) (by decide) rfl (hG.lt0 82 (by decide)) dX11_refuseCrowds_15 h (fun h => ?_) (fun q15 hq h => ?_)
    · refine ya_astoreN_n [(2, .null), (0, .ref (X.2.1 + 0)), (1, .int v1)] (by decide) rfl dX11_refuseCrowds_16 ?_
      refine ya_aloadN_n 0 rfl dX11_refuseCrowds_17 ?_
      refine ya_ifnonnullN dX11_refuseCrowds_18 ?_
      refine ya_bipush (-6) (by decide) dX11_refuseCrowds_21 ?_
      cases h
      exact ya_iret rfl rfl rfl rfl rfl (Nat.le_refl _) dX11_refuseCrowds_23
    · have h_q15 := hdy.2 _ _ hq
      refine ya_astore_n [(2, .ref (X.2.1 + q15)), (0, .ref (X.2.1 + 0)), (1, .int v1)] (by decide) rfl dX11_refuseCrowds_16 ?_
      refine ya_aload_n 0 rfl dX11_refuseCrowds_17 ?_
      refine ya_ifnonnull 24 (by decide) dX11_refuseCrowds_18 ?_
      refine ya_aload_n 0 rfl dX11_refuseCrowds_24 ?_
      refine ya_getI fo_X11_332 (h_q15.o 0 rfl) (h_q15.lt 0 (by decide)) dX11_refuseCrowds_25 ?_
      refine ya_iconst 3 (by decide) dX11_refuseCrowds_28 ?_
      refine ya_irem (by decide) dX11_refuseCrowds_29 ?_
      refine ya_ifeq 36 (by decide) dX11_refuseCrowds_30 (fun c => ?_) (fun c => ?_)
      · replace h := ya_itet h c
        refine ya_iconst 0 (by decide) dX11_refuseCrowds_36 ?_
        refine ya_istore_n [(3, .int 0), (2, .ref (X.2.1 + q15)), (0, .ref (X.2.1 + 0)), (1, .int v1)] (by decide) rfl dX11_refuseCrowds_37 ?_
        refine ya_sub [(0, .ref (X.2.1 + 0)), (2, .ref (X.2.1 + q15)), (3, .int 0)] [2, 1, 0] rfl ?_
        refine w_X11_refuseCrowds_L38 hG hdy h_q15 (fun  h => ?_) ya_F _ h
        refine ya_bipush (-2) (by decide) dX11_refuseCrowds_111 ?_
        cases h
        exact ya_iret rfl rfl rfl rfl rfl (Nat.le_refl _) dX11_refuseCrowds_113
      · replace h := ya_itef h c
        refine ya_bipush (-2) (by decide) dX11_refuseCrowds_33 ?_
        cases h
        exact ya_iret rfl rfl rfl rfl rfl (Nat.le_refl _) dX11_refuseCrowds_35
  · replace h := ya_itet h c
    refine ya_bipush (-2) (by decide) dX11_refuseCrowds_7 ?_
    cases h
    exact ya_iret rfl rfl rfl rfl rfl (Nat.le_refl _) dX11_refuseCrowds_9
set_option maxRecDepth 20000 in
theorem w_X11_crowdsAgree_L34 {X : ya_X} {G : ya_G} {q5 : Nat} {v2 : Int32} {v3 : Int32} {v6 : Int32} {d : ya_D} {rr : Int32} (hG : ya_Bk ya_sh ya_ln G 0) (hdy : ya_Dy G) (h_q5 : ya_Bk shX4 lnX4 G q5) : ∀ (n : Nat) (v7 : Int32), f_X11_crowdsAgree_L34 G q5 v2 v3 v6 d n v7 = some rr → ya_E X Y_X11_crowdsAgree (ya_M X (some (.int rr), G, d) 0 0) 34 [(2, .int v2), (3, .int v3), (5, .ref (X.2.1 + q5)), (6, .int v6), (7, .int v7)] [] G d 0 0 := by
  intro n
  induction n with
  | zero => intro v7 h; cases h
  | succ n ih =>
    intro v7 h
    rw [f_X11_crowdsAgree_L34] at h
    refine ya_iload 4 rfl dX11_crowdsAgree_34 ?_
    refine ya_iconst 2 (by decide) dX11_crowdsAgree_36 ?_
    refine ya_iadd dX11_crowdsAgree_37 ?_
    refine ya_aload 2 rfl dX11_crowdsAgree_38 ?_
    refine ya_getI fo_X11_332 (h_q5.o 0 rfl) (h_q5.lt 0 (by decide)) dX11_crowdsAgree_40 ?_
    refine ya_icmp_ge 113 (by decide) dX11_crowdsAgree_43 (fun c => ?_) (fun c => ?_)
    · replace h := ya_itet h c
      refine ya_iconst 1 (by decide) dX11_crowdsAgree_113 ?_
      cases h
      exact ya_zret .boolean rfl rfl rfl rfl (by decide) rfl (Nat.le_refl _) dX11_crowdsAgree_114
    · replace h := ya_itef h c
      refine ya_aload 2 rfl dX11_crowdsAgree_46 ?_
      refine ya_getR fo_X11_333 (h_q5.o 0 rfl) (h_q5.lt 0 (by decide)) (h_q5.l 0 rfl) dX11_crowdsAgree_48 ?_
      refine ya_iload 4 rfl dX11_crowdsAgree_51 ?_
      refine ya_lald (h_q5.s 1 rfl) (h_q5.lt 1 (by decide)) dX11_crowdsAgree_53 h (fun x53 h => ?_)
      refine ya_iload_n 0 rfl dX11_crowdsAgree_54 ?_
      refine ya_i2l dX11_crowdsAgree_55 ?_
      refine ya_j1_s h (fun t0_81 => ya_E X Y_X11_crowdsAgree (ya_M X (some (.int rr), G, d) 0 0) 81 [(2, .int v2), (3, .int v3), (5, .ref (X.2.1 + q5)), (6, .int v6), (7, .int v7)] [.int t0_81] G d 0 0) (fun t0_81 h => ?_) (fun k81 hk81 h => ?_)
      · refine ya_istore [(8, .int t0_81), (2, .int v2), (3, .int v3), (5, .ref (X.2.1 + q5)), (6, .int v6), (7, .int v7)] (by decide) rfl dX11_crowdsAgree_81 ?_
        refine ya_iload 0 rfl dX11_crowdsAgree_83 ?_
        refine ya_j0_s h (ya_E X Y_X11_crowdsAgree (ya_M X (some (.int rr), G, d) 0 0) 107 [(2, .int v2), (3, .int v3), (5, .ref (X.2.1 + q5)), (6, .int v6), (7, .int v7)] [] G d 0 0) (fun h => ?_) (fun k107 hk107 h => ?_)
        · refine ya_iinc (v7 + 3) rfl 4 rfl [(7, .int (v7 + 3)), (2, .int v2), (3, .int v3), (5, .ref (X.2.1 + q5)), (6, .int v6)] (by decide) rfl dX11_crowdsAgree_107 ?_
          refine ya_goto 34 (by decide) dX11_crowdsAgree_110 ?_
          refine ya_sub [(2, .int v2), (3, .int v3), (5, .ref (X.2.1 + q5)), (6, .int v6), (7, .int (v7 + 3))] [1, 2, 3, 4, 0] rfl ?_
          exact ih _ h
        · refine ya_ifeq 107 (by decide) dX11_crowdsAgree_85 (fun c => ?_) (fun c => ?_)
          · replace h := ya_itet h c
            refine ya_sub [(2, .int v2), (3, .int v3), (5, .ref (X.2.1 + q5)), (6, .int v6), (7, .int v7)] [1, 2, 3, 4, 5] rfl ?_
            exact hk107  h
          · replace h := ya_itef h c
            refine ya_aload 3 rfl dX11_crowdsAgree_88 ?_
            refine ya_getR fo_X11_333 (h_q5.o 0 rfl) (h_q5.lt 0 (by decide)) (h_q5.l 0 rfl) dX11_crowdsAgree_90 ?_
            refine ya_iload 5 rfl dX11_crowdsAgree_93 ?_
            refine ya_iconst 2 (by decide) dX11_crowdsAgree_95 ?_
            refine ya_iadd dX11_crowdsAgree_96 ?_
            refine ya_lald (h_q5.s 1 rfl) (h_q5.lt 1 (by decide)) dX11_crowdsAgree_97 h (fun x97 h => ?_)
            refine ya_iload 4 rfl dX11_crowdsAgree_98 ?_
            refine ya_i2l dX11_crowdsAgree_100 ?_
            refine ya_lif_eq 107 (by decide) dX11_crowdsAgree_101 dX11_crowdsAgree_102 (fun c => ?_) (fun c => ?_)
            · replace h := ya_itet h c
              refine ya_sub [(2, .int v2), (3, .int v3), (5, .ref (X.2.1 + q5)), (6, .int v6), (7, .int v7)] [1, 2, 3, 4, 5] rfl ?_
              exact hk107  h
            · replace h := ya_itef h c
              refine ya_iconst 0 (by decide) dX11_crowdsAgree_105 ?_
              cases h
              exact ya_zret .boolean rfl rfl rfl rfl (by decide) rfl (Nat.le_refl _) dX11_crowdsAgree_106
      · refine ya_j0_s h (ya_E X Y_X11_crowdsAgree (ya_M X (some (.int rr), G, d) 0 0) 80 [(2, .int v2), (3, .int v3), (5, .ref (X.2.1 + q5)), (6, .int v6), (7, .int v7)] [] G d 0 0) (fun h => ?_) (fun k80 hk80 h => ?_)
        · refine ya_iconst 0 (by decide) dX11_crowdsAgree_80 ?_
          exact hk81 _ h
        · refine ya_lif_ne 80 (by decide) dX11_crowdsAgree_56 dX11_crowdsAgree_57 (fun c => ?_) (fun c => ?_)
          · replace h := ya_itef h c
            exact hk80  h
          · replace h := ya_itet h c
            refine ya_aload 2 rfl dX11_crowdsAgree_60 ?_
            refine ya_getR fo_X11_333 (h_q5.o 0 rfl) (h_q5.lt 0 (by decide)) (h_q5.l 0 rfl) dX11_crowdsAgree_62 ?_
            refine ya_iload 4 rfl dX11_crowdsAgree_65 ?_
            refine ya_iconst 1 (by decide) dX11_crowdsAgree_67 ?_
            refine ya_iadd dX11_crowdsAgree_68 ?_
            refine ya_lald (h_q5.s 1 rfl) (h_q5.lt 1 (by decide)) dX11_crowdsAgree_69 h (fun x69 h => ?_)
            refine ya_iload_n 1 rfl dX11_crowdsAgree_70 ?_
            refine ya_i2l dX11_crowdsAgree_71 ?_
            refine ya_lif_ne 80 (by decide) dX11_crowdsAgree_72 dX11_crowdsAgree_73 (fun c => ?_) (fun c => ?_)
            · replace h := ya_itef h c
              exact hk80  h
            · replace h := ya_itet h c
              refine ya_iconst 1 (by decide) dX11_crowdsAgree_76 ?_
              refine ya_goto 81 (by decide) dX11_crowdsAgree_77 ?_
              exact hk81 _ h
set_option maxRecDepth 20000 in
theorem c_X11_crowdsAgree {X : ya_X} {G : ya_G} {v1 : Int32} {v2 : Int32} {v3 : Int32} {v4 : Int32} {d : ya_D} {rr : Int32} (hG : ya_Bk ya_sh ya_ln G 0) (hdy : ya_Dy G) (h : f_X11_crowdsAgree G v1 v2 v3 v4 d = some rr) : ya_Ct X yX11_crowdsAgree Y_X11_crowdsAgree [.ref (X.2.1 + 0), .int v1, .int v2, .int v3, .int v4] G d (some (.int rr), G, d) := by
  refine ya_ct (by decide +kernel) rfl rfl (Nat.le_of_ble_eq_true rfl) ?_
  unfold f_X11_crowdsAgree at h
  show ya_E X Y_X11_crowdsAgree (ya_M X (some (.int rr), G, d) 0 0) 0 [(0, .ref (X.2.1 + 0)), (1, .int v1), (2, .int v2), (3, .int v3), (4, .int v4)] [] G d 0 0
  refine ya_aload_n 0 rfl dX11_crowdsAgree_0 ?_
  refine ya_getR fo_X11_60 (hG.o0 0 rfl) (hG.lt0 0 (by decide)) (hG.l0 81 rfl) dX11_crowdsAgree_1 ?_
  refine ya_iload_n 1 rfl dX11_crowdsAgree_4 ?_
  refine ya_lkb (C := "YearAgo$Row") (hG.s0 82 rfl) (by decide) (by decide) rfl (hG.lt0 82 (by decide)) dX11_crowdsAgree_5 h (fun h => ?_) (fun q5 hq h => ?_)
  · refine ya_astoreN [(5, .null), (0, .ref (X.2.1 + 0)), (1, .int v1), (2, .int v2), (3, .int v3), (4, .int v4)] (by decide) rfl dX11_crowdsAgree_6 ?_
    refine ya_aloadN 0 rfl dX11_crowdsAgree_8 ?_
    refine ya_ifnonnullN dX11_crowdsAgree_10 ?_
    refine ya_iconst 0 (by decide) dX11_crowdsAgree_13 ?_
    cases h
    exact ya_zret .boolean rfl rfl rfl rfl (by decide) rfl (Nat.le_refl _) dX11_crowdsAgree_14
  · have h_q5 := hdy.2 _ _ hq
    refine ya_astore [(5, .ref (X.2.1 + q5)), (0, .ref (X.2.1 + 0)), (1, .int v1), (2, .int v2), (3, .int v3), (4, .int v4)] (by decide) rfl dX11_crowdsAgree_6 ?_
    refine ya_aload 0 rfl dX11_crowdsAgree_8 ?_
    refine ya_ifnonnull 15 (by decide) dX11_crowdsAgree_10 ?_
    refine ya_aload_n 1 rfl dX11_crowdsAgree_15 ?_
    refine ya_getR fo_X11_26 (hG.o0 0 rfl) (hG.lt0 0 (by decide)) (hG.l0 40 rfl) dX11_crowdsAgree_16 ?_
    refine ya_getR fo_X11_168 (hG.o0 24 rfl) (hG.lt0 24 (by decide)) (hG.l0 39 rfl) dX11_crowdsAgree_19 ?_
    refine ya_iload_n 3 rfl dX11_crowdsAgree_22 ?_
    refine ya_iload_n 4 rfl dX11_crowdsAgree_23 ?_
    refine ya_iload 5 rfl dX11_crowdsAgree_24 ?_
    obtain ⟨x26, e26, h⟩ := ya_ob h
    refine ya_callVi (S := []) (c_X1_countComing hG (bk_0_35 hG) e26) m_X1_countComing ⟨rfl, rfl⟩ ml_X11_231 rfl ⟨Nat.le_of_ble_eq_true rfl, Nat.le_of_ble_eq_true rfl⟩ (Nat.le_of_ble_eq_true rfl) (hG.lt0 35 (by decide)) (hG.o0 35 rfl) (by decide) rfl rfl ⟨Nat.le_refl _, Nat.le_refl _⟩ dX11_crowdsAgree_26 rfl ?_
    refine ya_istore [(6, .int x26), (5, .ref (X.2.1 + q5)), (0, .ref (X.2.1 + 0)), (1, .int v1), (2, .int v2), (3, .int v3), (4, .int v4)] (by decide) rfl dX11_crowdsAgree_29 ?_
    refine ya_iconst 0 (by decide) dX11_crowdsAgree_31 ?_
    refine ya_istore [(7, .int 0), (6, .int x26), (5, .ref (X.2.1 + q5)), (0, .ref (X.2.1 + 0)), (1, .int v1), (2, .int v2), (3, .int v3), (4, .int v4)] (by decide) rfl dX11_crowdsAgree_32 ?_
    refine ya_sub [(2, .int v2), (3, .int v3), (5, .ref (X.2.1 + q5)), (6, .int x26), (7, .int 0)] [5, 6, 2, 1, 0] rfl ?_
    refine w_X11_crowdsAgree_L34 hG hdy h_q5  ya_F _ h
