/-! IMAGE and ROW where a cell is made; what a world keeps -/
theorem ya_Bk.up {shs : List (Nat × Nat)} {lks : List (Nat × Nat × Nat)} {G G' : ya_G} {a : Nat} (h : ya_Bk shs lks G a) (l : ya_le G G') (hl : ∀ (j : Nat) (e : Nat × Nat × Nat), lks[j]? = some e → G'.2.2 (a + e.1) e.2.1 = G.2.2 (a + e.1) e.2.1) : ya_Bk shs lks G' a :=
  ⟨Nat.le_trans h.1 l.1, fun i z hz => (l.2 _ (h.lt i (List.getElem?_eq_some_iff.mp hz).1)).trans (h.2.1 i z hz), fun j e he => (hl j e he).trans (h.2.2 j e he)⟩
theorem ya_lnall : ∀ e ∈ ya_ln, e.1 < 108 ∧ e.1 ≠ 81 ∧ e.1 ≠ 82 := by decide +kernel
theorem ya_lnM : ∀ e ∈ lnX2, e.1 < 18 := by decide +kernel
theorem ya_lnR : ∀ e ∈ lnX4, e.1 < 2 := by decide +kernel
theorem ya_shlen : ya_sh.length = 108 := by decide +kernel
theorem ya_Bk0_up {G G' : ya_G} (h : ya_Bk ya_sh ya_ln G 0) (l : ya_le G G') (hl : ∀ b, b < 108 → b ≠ 81 → b ≠ 82 → ∀ k, G'.2.2 b k = G.2.2 b k) : ya_Bk ya_sh ya_ln G' 0 := by
  refine h.up l (fun j e he => ?_)
  obtain ⟨h1, h2, h3⟩ := ya_lnall e (List.mem_of_getElem? he)
  rw [Nat.zero_add]
  exact hl _ h1 h2 h3 _
theorem ya_BkM_up {G G' : ya_G} {a : Nat} (h : ya_Bk shX2 lnX2 G a) (l : ya_le G G') (hl : ∀ b, a ≤ b → b < a + 18 → ∀ k, G'.2.2 b k = G.2.2 b k) : ya_Bk shX2 lnX2 G' a :=
  h.up l (fun j e he => hl _ (Nat.le_add_right _ _) (by have := ya_lnM e (List.mem_of_getElem? he); omega) _)
theorem ya_BkR_up {G G' : ya_G} {a : Nat} (h : ya_Bk shX4 lnX4 G a) (l : ya_le G G') (hl : ∀ b, a ≤ b → b < a + 2 → ∀ k, G'.2.2 b k = G.2.2 b k) : ya_Bk shX4 lnX4 G' a :=
  h.up l (fun j e he => hl _ (Nat.le_add_right _ _) (by have := ya_lnR e (List.mem_of_getElem? he); omega) _)
set_option maxHeartbeats 4000000 in
set_option maxRecDepth 20000 in
theorem bkX2_new {N : Nat} {G : ya_G} : ya_Bk shX2 lnX2 (iG_X2_init N (N + 1) (ya_nH N G (2, 0))) N := by
  refine ⟨?_, ?_, ?_⟩
  · rw [(iL_X2_init (a := N) (N := N + 1) (G := ya_nH N G (2, 0)) rfl).2]
    exact Nat.le_refl _
  · intro i z hz
    have hi : i < 18 := (List.getElem?_eq_some_iff.mp hz).1
    obtain rfl | rfl | rfl | rfl | rfl | rfl | rfl | rfl | rfl | rfl | rfl | rfl | rfl | rfl | rfl | rfl | rfl | rfl : i = 0 ∨ i = 1 ∨ i = 2 ∨ i = 3 ∨ i = 4 ∨ i = 5 ∨ i = 6 ∨ i = 7 ∨ i = 8 ∨ i = 9 ∨ i = 10 ∨ i = 11 ∨ i = 12 ∨ i = 13 ∨ i = 14 ∨ i = 15 ∨ i = 16 ∨ i = 17 := by omega
    all_goals
      obtain rfl := Option.some.inj hz
      simp only [iG_X2_init, iG_X8_init, iG_X6_init, iG_X1_init, ya_nH, ya_sR, Nat.add_zero, and_true, true_and, and_false, false_and, if_true, if_false, eq_self_iff_true]
      repeat (first | rw [if_pos (by omega)] | rw [if_neg (by omega)])
  · intro j e he
    have hj : j < 17 := (List.getElem?_eq_some_iff.mp he).1
    obtain rfl | rfl | rfl | rfl | rfl | rfl | rfl | rfl | rfl | rfl | rfl | rfl | rfl | rfl | rfl | rfl | rfl : j = 0 ∨ j = 1 ∨ j = 2 ∨ j = 3 ∨ j = 4 ∨ j = 5 ∨ j = 6 ∨ j = 7 ∨ j = 8 ∨ j = 9 ∨ j = 10 ∨ j = 11 ∨ j = 12 ∨ j = 13 ∨ j = 14 ∨ j = 15 ∨ j = 16 := by omega
    all_goals
      obtain rfl := Option.some.inj he
      simp only [iG_X2_init, iG_X8_init, iG_X6_init, iG_X1_init, ya_nH, ya_sR, Nat.add_zero, and_true, true_and, and_false, false_and, if_true, if_false, eq_self_iff_true]
      repeat (first | rw [if_pos (by omega)] | rw [if_neg (by omega)])
      try rfl
theorem bkX4_new {N : Nat} {G : ya_G} : ya_Bk shX4 lnX4 (iG_X4_init N (N + 1) (ya_nH N G (4, 0))) N := by
  refine ⟨?_, ?_, ?_⟩
  · rw [(iL_X4_init (a := N) (N := N + 1) (G := ya_nH N G (4, 0)) rfl).2]
    exact Nat.le_refl _
  · intro i z hz
    have hi : i < 2 := (List.getElem?_eq_some_iff.mp hz).1
    obtain rfl | rfl : i = 0 ∨ i = 1 := by omega
    all_goals
      obtain rfl := Option.some.inj hz
      simp only [iG_X4_init, ya_nH, ya_sR, Nat.add_zero, and_true, true_and, and_false, false_and, if_true, if_false, eq_self_iff_true]
      repeat (first | rw [if_pos (by omega)] | rw [if_neg (by omega)])
  · intro j e he
    have hj : j < 1 := (List.getElem?_eq_some_iff.mp he).1
    obtain rfl : j = 0 := by omega
    obtain rfl := Option.some.inj he
    simp only [iG_X4_init, ya_nH, ya_sR, Nat.add_zero, and_true, true_and, and_false, false_and, if_true, if_false, eq_self_iff_true]
    repeat (first | rw [if_pos (by omega)] | rw [if_neg (by omega)])
    try rfl
def g_imB (N i : Nat) (G : ya_G) : ya_G := ya_sR (iG_X2_init N (N + 1) (ya_nH N G (2, 0))) 81 i (some N)
def g_rwB (N i : Nat) (G : ya_G) : ya_G := ya_sR (iG_X4_init N (N + 1) (ya_nH N G (4, 0))) 82 i (some N)
theorem g_imB_le {N i : Nat} {G : ya_G} (hN : G.1 = N) : ya_le G (g_imB N i G) ∧ (g_imB N i G).1 = N + 18 :=
  ⟨((ya_le.nH hN).tr (iL_X2_init rfl).1).tr ya_le.sR, (iL_X2_init (a := N) (N := N + 1) (G := ya_nH N G (2, 0)) rfl).2⟩
theorem g_rwB_le {N i : Nat} {G : ya_G} (hN : G.1 = N) : ya_le G (g_rwB N i G) ∧ (g_rwB N i G).1 = N + 2 :=
  ⟨((ya_le.nH hN).tr (iL_X4_init rfl).1).tr ya_le.sR, (iL_X4_init (a := N) (N := N + 1) (G := ya_nH N G (4, 0)) rfl).2⟩
theorem g_imB_r {N i b k : Nat} {G : ya_G} (hb : b < N) (h : b ≠ 81 ∨ k ≠ i) : (g_imB N i G).2.2 b k = G.2.2 b k := by
  show (if b = 81 ∧ k = i then some N else (iG_X2_init N (N + 1) (ya_nH N G (2, 0))).2.2 b k) = _
  rw [if_neg (fun q => h.elim (fun z => z q.1) (fun z => z q.2)), iR_X2_init b (by omega) (by omega) k, ya_nH_n (by omega)]
theorem g_rwB_r {N i b k : Nat} {G : ya_G} (hb : b < N) (h : b ≠ 82 ∨ k ≠ i) : (g_rwB N i G).2.2 b k = G.2.2 b k := by
  show (if b = 82 ∧ k = i then some N else (iG_X4_init N (N + 1) (ya_nH N G (4, 0))).2.2 b k) = _
  rw [if_neg (fun q => h.elim (fun z => z q.1) (fun z => z q.2)), iR_X4_init b (by omega) (by omega) k, ya_nH_n (by omega)]
theorem g_imB_new {N i : Nat} {G : ya_G} : (g_imB N i G).2.2 81 i = some N := if_pos ⟨rfl, rfl⟩
theorem g_rwB_new {N i : Nat} {G : ya_G} : (g_rwB N i G).2.2 82 i = some N := if_pos ⟨rfl, rfl⟩
theorem g_imB_ok {N i : Nat} {G : ya_G} (hN : G.1 = N) (hG : ya_Bk ya_sh ya_ln G 0) (hdy : ya_Dy G) : ya_Bk ya_sh ya_ln (g_imB N i G) 0 ∧ ya_Dy (g_imB N i G) ∧ ya_Bk shX2 lnX2 (g_imB N i G) N := by
  have h108 : 108 ≤ N := by have := hG.1; rw [ya_shlen] at this; omega
  have hl := (g_imB_le (i := i) hN).1
  have hnew : ya_Bk shX2 lnX2 (g_imB N i G) N := ya_BkM_up bkX2_new ya_le.sR (fun b h1 _ k => ya_sR_n (by omega))
  refine ⟨ya_Bk0_up hG hl (fun b h1 h2 h3 k => g_imB_r (by omega) (Or.inl h2)), ⟨fun k q hq => ?_, fun k q hq => ?_⟩, hnew⟩
  · by_cases hk : k = i
    · subst hk
      rw [g_imB_new] at hq
      cases hq
      exact hnew
    · rw [g_imB_r (by omega) (Or.inr hk)] at hq
      have h9 := hdy.1 k q hq
      have h8 := h9.1
      exact ya_BkM_up h9 hl (fun b h1 h2 k => g_imB_r (by have : shX2.length = 18 := rfl; omega) (Or.inl (by
        intro e
        have h7 := h9.s (81 - q) (z := (shX2.getD (81 - q) (0, 0))) (by
          have : 81 - q < 18 := by omega
          rw [List.getD_eq_getElem?_getD, List.getElem?_eq_getElem (by show _ < 18; omega)]; rfl)
        have h6 := hG.s0 81 (z := (25, 3)) rfl
        rw [show q + (81 - q) = 81 by omega, h6] at h7
        exact absurd h7 (by
          have h5 : ∀ j, j < 18 → (25, 3) ≠ shX2.getD j (0, 0) := by decide +kernel
          exact h5 _ (by omega)))))
  · rw [g_imB_r (by omega) (Or.inl (by decide))] at hq
    have h9 := hdy.2 k q hq
    have h8 := h9.1
    exact ya_BkR_up h9 hl (fun b h1 h2 k => g_imB_r (by have : shX4.length = 2 := rfl; omega) (Or.inl (by
        intro e
        have h7 := h9.s (81 - q) (z := (shX4.getD (81 - q) (0, 0))) (by
          rw [List.getD_eq_getElem?_getD, List.getElem?_eq_getElem (by show _ < 2; omega)]; rfl)
        have h6 := hG.s0 81 (z := (25, 3)) rfl
        rw [show q + (81 - q) = 81 by omega, h6] at h7
        exact absurd h7 (by
          have h5 : ∀ j, j < 2 → (25, 3) ≠ shX4.getD j (0, 0) := by decide +kernel
          exact h5 _ (by omega)))))
theorem g_rwB_ok {N i : Nat} {G : ya_G} (hN : G.1 = N) (hG : ya_Bk ya_sh ya_ln G 0) (hdy : ya_Dy G) : ya_Bk ya_sh ya_ln (g_rwB N i G) 0 ∧ ya_Dy (g_rwB N i G) ∧ ya_Bk shX4 lnX4 (g_rwB N i G) N := by
  have h108 : 108 ≤ N := by have := hG.1; rw [ya_shlen] at this; omega
  have hl := (g_rwB_le (i := i) hN).1
  have hnew : ya_Bk shX4 lnX4 (g_rwB N i G) N := ya_BkR_up bkX4_new ya_le.sR (fun b h1 _ k => ya_sR_n (by omega))
  refine ⟨ya_Bk0_up hG hl (fun b h1 h2 h3 k => g_rwB_r (by omega) (Or.inl h3)), ⟨fun k q hq => ?_, fun k q hq => ?_⟩, hnew⟩
  · rw [g_rwB_r (by omega) (Or.inl (by decide))] at hq
    have h9 := hdy.1 k q hq
    have h8 := h9.1
    exact ya_BkM_up h9 hl (fun b h1 h2 k => g_rwB_r (by have : shX2.length = 18 := rfl; omega) (Or.inl (by
        intro e
        have h7 := h9.s (82 - q) (z := (shX2.getD (82 - q) (0, 0))) (by
          rw [List.getD_eq_getElem?_getD, List.getElem?_eq_getElem (by show _ < 18; omega)]; rfl)
        have h6 := hG.s0 82 (z := (26, 4)) rfl
        rw [show q + (82 - q) = 82 by omega, h6] at h7
        exact absurd h7 (by
          have h5 : ∀ j, j < 18 → (26, 4) ≠ shX2.getD j (0, 0) := by decide +kernel
          exact h5 _ (by omega)))))
  · by_cases hk : k = i
    · subst hk
      rw [g_rwB_new] at hq
      cases hq
      exact hnew
    · rw [g_rwB_r (by omega) (Or.inr hk)] at hq
      have h9 := hdy.2 k q hq
      have h8 := h9.1
      exact ya_BkR_up h9 hl (fun b h1 h2 k => g_rwB_r (by have : shX4.length = 2 := rfl; omega) (Or.inl (by
        intro e
        have h7 := h9.s (82 - q) (z := (shX4.getD (82 - q) (0, 0))) (by
          rw [List.getD_eq_getElem?_getD, List.getElem?_eq_getElem (by show _ < 2; omega)]; rfl)
        have h6 := hG.s0 82 (z := (26, 4)) rfl
        rw [show q + (82 - q) = 82 by omega, h6] at h7
        exact absurd h7 (by
          have h5 : ∀ j, j < 2 → (26, 4) ≠ shX4.getD j (0, 0) := by decide +kernel
          exact h5 _ (by omega)))))
section
variable {X : ya_X} {Y : ya_Y} {Γ : ya_Γ} {pc : Nat} {L : List (Nat × Value)} {S : List Value} {G : ya_G} {d : ya_D} {k n : Nat}
theorem ya_aaldN {a ka na : Nat} {i : Int32} {C : String} (hs : G.2.1 a = (ka, na)) (h0 : 24 < ka) (h1 : ka < 27) (hC0 : ya_at ka = .object C) (ha : a < G.1) (hin : vp_in i na) (hq : G.2.2 a i.toNatClampNeg = none) (hd : decode Y.1 pc = .ok (.aaload, 1)) (kk : ya_E X Y Γ (pc + 1) L (.null :: S) G d k n) : ya_E X Y Γ pc L (.int i :: .ref (X.2.1 + a) :: S) G d k n :=
  ya_aald hs h0 h1 hC0 ha hin hd (by rw [hq]; exact kk)
theorem ya_aaldS {a ka na q : Nat} {i : Int32} {C : String} (hs : G.2.1 a = (ka, na)) (h0 : 24 < ka) (h1 : ka < 27) (hC0 : ya_at ka = .object C) (ha : a < G.1) (hin : vp_in i na) (hq : G.2.2 a i.toNatClampNeg = some q) (hd : decode Y.1 pc = .ok (.aaload, 1)) (kk : ya_E X Y Γ (pc + 1) L (.ref (X.2.1 + q) :: S) G d k n) : ya_E X Y Γ pc L (.int i :: .ref (X.2.1 + a) :: S) G d k n :=
  ya_aald hs h0 h1 hC0 ha hin hd (by rw [hq]; exact kk)
end
def f_X11_imageB (N : Nat) (v1 : Int32) (d : ya_D) : Option (Int32 × ya_D) :=
  (f_X11_within v1 0 2).bind fun x3 => if x3 = 0 then none else (f_X2_take N 24 (iD_X2_init N (N + 1) (ya_nE N d))).bind fun d44 => some (0, d44)
abbrev Y_X11_imageB : ya_Y := (cX11_image, RX11, 2, (some (.int)), "image", { frames := 3, cells := 18, slots := 485, locals := 82 })
set_option maxRecDepth 20000 in
theorem c_X11_imageB {X : ya_X} {G : ya_G} {v1 : Int32} {d : ya_D} {N : Nat} {rr : (Int32 × ya_D)} (hG : ya_Bk ya_sh ya_ln G 0) (hdy : ya_Dy G) (hN : G.1 = N) (hin : vp_in v1 3) (hq : G.2.2 81 v1.toNatClampNeg = none) (h : f_X11_imageB N v1 d = some rr) : ya_Ct X yX11_image Y_X11_imageB [.ref (X.2.1 + 0), .int v1] G d (some (.int rr.1), g_imB N v1.toNatClampNeg G, rr.2) := by
  obtain ⟨hG3, hdy3, hN3⟩ := g_imB_ok (i := v1.toNatClampNeg) hN hG hdy
  have h108 : 108 ≤ N := by have := hG.1; rw [ya_shlen] at this; omega
  refine ya_ct (by decide +kernel) rfl rfl (Nat.le_of_ble_eq_true rfl) ?_
  unfold f_X11_imageB at h
  show ya_E X Y_X11_imageB (ya_M X (some (.int rr.1), g_imB N v1.toNatClampNeg G, rr.2) 18 485) 0 [(0, .ref (X.2.1 + 0)), (1, .int v1)] [] G d 0 0
  refine ya_iload_n 1 rfl dX11_image_0 ?_
  refine ya_iconst 0 (by decide) dX11_image_1 ?_
  refine ya_iconst 2 (by decide) dX11_image_2 ?_
  obtain ⟨x3, e3, h⟩ := ya_ob h
  refine ya_callSi (S := []) (c_X11_within hG e3) m_X11_within ⟨rfl, rfl⟩ ml_X11_213 rfl ⟨Nat.le_of_ble_eq_true rfl, Nat.le_of_ble_eq_true rfl⟩ (Nat.le_of_ble_eq_true rfl) ⟨Nat.le_of_ble_eq_true rfl, Nat.le_of_ble_eq_true rfl⟩ dX11_image_3 rfl ?_
  refine ya_ifne 12 (by decide) dX11_image_6 (fun c => ?_) (fun c => ?_)
  · replace h := ya_itef h c
    refine ya_aload_n 0 rfl dX11_image_12 ?_
    refine ya_getR fo_X11_54 (hG.o0 0 rfl) (hG.lt0 0 (by decide)) (hG.l0 80 rfl) dX11_image_13 ?_
    refine ya_iload_n 1 rfl dX11_image_16 ?_
    refine ya_aaldN (C := "YearAgo$Market") (hG.s0 81 rfl) (by decide) (by decide) rfl (hG.lt0 81 (by decide)) hin hq dX11_image_17 ?_
    refine ya_ifnonnullN dX11_image_18 ?_
    refine ya_aload_n 0 rfl dX11_image_21 ?_
    refine ya_getR fo_X11_54 (hG.o0 0 rfl) (hG.lt0 0 (by decide)) (hG.l0 80 rfl) dX11_image_22 ?_
    refine ya_iload_n 1 rfl dX11_image_25 ?_
    refine ya_newO (q := N) mk_X11_23 hN (Nat.le_of_ble_eq_true rfl) (Nat.le_of_ble_eq_true rfl) dX11_image_26 ?_
    refine ya_dup rfl dX11_image_29 ?_
    refine ya_callINv (S := [.ref (X.2.1 + N), .int v1, .ref (X.2.1 + 81)]) (c_X2_init (a := N) (N := N + 1) (G := ya_nH N G (2, 0)) ya_ob_.new rfl) m_X2_init 7 rfl rfl ⟨Nat.le_of_ble_eq_true rfl, Nat.le_of_ble_eq_true rfl⟩ (Nat.le_of_ble_eq_true rfl) ⟨Nat.le_of_ble_eq_true rfl, Nat.le_of_ble_eq_true rfl⟩ (by rw [(iL_X2_init (a := N) (N := N + 1) (G := ya_nH N G (2, 0)) rfl).2]; rfl) dX11_image_30 rfl ?_
    have hl2 : ya_le G (iG_X2_init N (N + 1) (ya_nH N G (2, 0))) := (ya_le.nH hN).tr (iL_X2_init rfl).1
    have hob2 : ya_ob_ (iG_X2_init N (N + 1) (ya_nH N G (2, 0))) N 2 := ya_ob_.new.up (iL_X2_init rfl).1
    refine ya_aast (r := (RX2, TX2, 6)) (ci := 2) ((hl2.2 81 (hG.lt0 81 (by decide))).trans (hG.s0 81 rfl)) (by decide) (by decide) rfl (Nat.lt_of_lt_of_le (hG.lt0 81 (by decide)) hl2.1) rfl (by decide) hob2.2 hob2.1 hin dX11_image_33 ?_
    show ya_E _ _ _ _ _ _ (g_imB N v1.toNatClampNeg G) _ _ _
    refine ya_aload_n 0 rfl dX11_image_34 ?_
    refine ya_getR fo_X11_54 (hG3.o0 0 rfl) (hG3.lt0 0 (by decide)) (hG3.l0 80 rfl) dX11_image_35 ?_
    refine ya_iload_n 1 rfl dX11_image_38 ?_
    refine ya_aaldS (C := "YearAgo$Market") (hG3.s0 81 rfl) (by decide) (by decide) rfl (hG3.lt0 81 (by decide)) hin g_imB_new dX11_image_39 ?_
    refine ya_aload_n 0 rfl dX11_image_40 ?_
    refine ya_getR fo_X11_26 (hG3.o0 0 rfl) (hG3.lt0 0 (by decide)) (hG3.l0 40 rfl) dX11_image_41 ?_
    obtain ⟨d44, e44, h⟩ := ya_ob h
    refine ya_callVv (S := []) (c_X2_take hG3 hN3 (bk_0_24 hG3) e44) m_X2_take ⟨rfl, rfl⟩ ml_X11_83 rfl ⟨Nat.le_of_ble_eq_true rfl, Nat.le_of_ble_eq_true rfl⟩ (Nat.le_of_ble_eq_true rfl) (hN3.lt 0 (by decide)) (hN3.o 0 rfl) (by decide) rfl rfl ⟨Nat.le_of_ble_eq_true rfl, Nat.le_of_ble_eq_true rfl⟩ dX11_image_44 rfl ?_
    refine ya_iconst 0 (by decide) dX11_image_47 ?_
    cases h
    exact ya_iret rfl rfl rfl rfl rfl (Nat.le_of_ble_eq_true rfl) dX11_image_48
  · replace h := ya_itet h c
    cases h
def f_X11_rowB (N : Nat) (v1 v2 v3 : Int32) (d : ya_D) : Option (Int32 × ya_D) :=
  (f_X11_isSlot v1).bind fun x1 => if x1 = 0 then none else (f_X11_within v2 0 3).bind fun x10 => if x10 = 0 then none else if v3 ≤ 60 then (if 0 ≤ v3 then (f_X4_begin N v2 v3 (iD_X4_init N (N + 1) (ya_nE N d))).bind fun d62 => some (0, d62) else none) else none
abbrev Y_X11_rowB : ya_Y := (cX11_row, RX11, 4, (some (.int)), "row", { frames := 2, cells := 2, slots := 63, locals := 46 })
set_option maxRecDepth 20000 in
theorem c_X11_rowB {X : ya_X} {G : ya_G} {v1 v2 v3 : Int32} {d : ya_D} {N : Nat} {rr : (Int32 × ya_D)} (hG : ya_Bk ya_sh ya_ln G 0) (hdy : ya_Dy G) (hN : G.1 = N) (hin : vp_in v1 4) (hq : G.2.2 82 v1.toNatClampNeg = none) (h : f_X11_rowB N v1 v2 v3 d = some rr) : ya_Ct X yX11_row Y_X11_rowB [.ref (X.2.1 + 0), .int v1, .int v2, .int v3] G d (some (.int rr.1), g_rwB N v1.toNatClampNeg G, rr.2) := by
  obtain ⟨hG3, hdy3, hN3⟩ := g_rwB_ok (i := v1.toNatClampNeg) hN hG hdy
  have h108 : 108 ≤ N := by have := hG.1; rw [ya_shlen] at this; omega
  refine ya_ct (by decide +kernel) rfl rfl (Nat.le_of_ble_eq_true rfl) ?_
  unfold f_X11_rowB at h
  show ya_E X Y_X11_rowB (ya_M X (some (.int rr.1), g_rwB N v1.toNatClampNeg G, rr.2) 2 63) 0 [(0, .ref (X.2.1 + 0)), (1, .int v1), (2, .int v2), (3, .int v3)] [] G d 0 0
  refine ya_iload_n 1 rfl dX11_row_0 ?_
  obtain ⟨x1, e1, h⟩ := ya_ob h
  refine ya_callSi (S := []) (c_X11_isSlot hG e1) m_X11_isSlot ⟨rfl, rfl⟩ ml_X11_347 rfl ⟨Nat.le_of_ble_eq_true rfl, Nat.le_of_ble_eq_true rfl⟩ (Nat.le_of_ble_eq_true rfl) ⟨Nat.le_of_ble_eq_true rfl, Nat.le_of_ble_eq_true rfl⟩ dX11_row_1 rfl ?_
  refine ya_ifeq 22 (by decide) dX11_row_4 (fun c => ?_) (fun c => ?_)
  · replace h := ya_itet h c
    cases h
  replace h := ya_itef h c
  refine ya_iload_n 2 rfl dX11_row_7 ?_
  refine ya_iconst 0 (by decide) dX11_row_8 ?_
  refine ya_iconst 3 (by decide) dX11_row_9 ?_
  obtain ⟨x10, e10, h⟩ := ya_ob h
  refine ya_callSi (S := []) (c_X11_within hG e10) m_X11_within ⟨rfl, rfl⟩ ml_X11_213 rfl ⟨Nat.le_of_ble_eq_true rfl, Nat.le_of_ble_eq_true rfl⟩ (Nat.le_of_ble_eq_true rfl) ⟨Nat.le_of_ble_eq_true rfl, Nat.le_of_ble_eq_true rfl⟩ dX11_row_10 rfl ?_
  refine ya_ifeq 22 (by decide) dX11_row_13 (fun c => ?_) (fun c => ?_)
  · replace h := ya_itet h c
    cases h
  replace h := ya_itef h c
  refine ya_iload_n 3 rfl dX11_row_16 ?_
  refine ya_bipush 60 (by decide) dX11_row_17 ?_
  refine ya_icmp_le 25 (by decide) dX11_row_19 (fun c => ?_) (fun c => ?_)
  · replace h := ya_itet h c
    refine ya_iload_n 3 rfl dX11_row_25 ?_
    refine ya_ifge 32 (by decide) dX11_row_26 (fun c => ?_) (fun c => ?_)
    · replace h := ya_itet h c
      refine ya_aload_n 0 rfl dX11_row_32 ?_
      refine ya_getR fo_X11_60 (hG.o0 0 rfl) (hG.lt0 0 (by decide)) (hG.l0 81 rfl) dX11_row_33 ?_
      refine ya_iload_n 1 rfl dX11_row_36 ?_
      refine ya_aaldN (C := "YearAgo$Row") (hG.s0 82 rfl) (by decide) (by decide) rfl (hG.lt0 82 (by decide)) hin hq dX11_row_37 ?_
      refine ya_ifnonnullN dX11_row_38 ?_
      refine ya_aload_n 0 rfl dX11_row_41 ?_
      refine ya_getR fo_X11_60 (hG.o0 0 rfl) (hG.lt0 0 (by decide)) (hG.l0 81 rfl) dX11_row_42 ?_
      refine ya_iload_n 1 rfl dX11_row_45 ?_
      refine ya_newO (q := N) mk_X11_58 hN (Nat.le_of_ble_eq_true rfl) (Nat.le_of_ble_eq_true rfl) dX11_row_46 ?_
      refine ya_dup rfl dX11_row_49 ?_
      refine ya_callINv (S := [.ref (X.2.1 + N), .int v1, .ref (X.2.1 + 82)]) (c_X4_init (a := N) (N := N + 1) (G := ya_nH N G (4, 0)) ya_ob_.new rfl) m_X4_init 17 rfl rfl ⟨Nat.le_of_ble_eq_true rfl, Nat.le_of_ble_eq_true rfl⟩ (Nat.le_of_ble_eq_true rfl) ⟨Nat.le_of_ble_eq_true rfl, Nat.le_of_ble_eq_true rfl⟩ (by rw [(iL_X4_init (a := N) (N := N + 1) (G := ya_nH N G (4, 0)) rfl).2]; rfl) dX11_row_50 rfl ?_
      have hl2 : ya_le G (iG_X4_init N (N + 1) (ya_nH N G (4, 0))) := (ya_le.nH hN).tr (iL_X4_init rfl).1
      have hob2 : ya_ob_ (iG_X4_init N (N + 1) (ya_nH N G (4, 0))) N 4 := ya_ob_.new.up (iL_X4_init rfl).1
      refine ya_aast (r := (RX4, TX4, 3)) (ci := 4) ((hl2.2 82 (hG.lt0 82 (by decide))).trans (hG.s0 82 rfl)) (by decide) (by decide) rfl (Nat.lt_of_lt_of_le (hG.lt0 82 (by decide)) hl2.1) rfl (by decide) hob2.2 hob2.1 hin dX11_row_53 ?_
      show ya_E _ _ _ _ _ _ (g_rwB N v1.toNatClampNeg G) _ _ _
      refine ya_aload_n 0 rfl dX11_row_54 ?_
      refine ya_getR fo_X11_60 (hG3.o0 0 rfl) (hG3.lt0 0 (by decide)) (hG3.l0 81 rfl) dX11_row_55 ?_
      refine ya_iload_n 1 rfl dX11_row_58 ?_
      refine ya_aaldS (C := "YearAgo$Row") (hG3.s0 82 rfl) (by decide) (by decide) rfl (hG3.lt0 82 (by decide)) hin g_rwB_new dX11_row_59 ?_
      refine ya_iload_n 2 rfl dX11_row_60 ?_
      refine ya_iload_n 3 rfl dX11_row_61 ?_
      obtain ⟨d62, e62, h⟩ := ya_ob h
      refine ya_callVv (S := []) (c_X4_begin hG3 hN3 e62) m_X4_begin ⟨rfl, rfl⟩ ml_X11_351 rfl ⟨Nat.le_of_ble_eq_true rfl, Nat.le_of_ble_eq_true rfl⟩ (Nat.le_of_ble_eq_true rfl) (hN3.lt 0 (by decide)) (hN3.o 0 rfl) (by decide) rfl rfl ⟨Nat.le_of_ble_eq_true rfl, Nat.le_of_ble_eq_true rfl⟩ dX11_row_62 rfl ?_
      refine ya_iconst 0 (by decide) dX11_row_65 ?_
      cases h
      exact ya_iret rfl rfl rfl rfl rfl (Nat.le_of_ble_eq_true rfl) dX11_row_66
    · replace h := ya_itef h c
      cases h
  · replace h := ya_itef h c
    cases h
