/-! most -/
section
variable {d e : ya_D} {M : pm_M}
theorem pm_wd_anti {x t y y' n : Nat} (h : y ≤ y') : pm_wd M x t y' n ≤ pm_wd M x t y n := by
  refine pn_sum_mm n (fun b _ => ?_)
  by_cases c : pm_co M x t y' b
  · have c2 : pm_co M x t y b := ⟨c.1, c.2.1, c.2.2.1, Nat.le_trans h c.2.2.2⟩
    rw [if_pos c, if_pos c2]; exact Nat.le_refl _
  · rw [if_neg c]; exact Nat.zero_le _
/-- what brings more at i - 1 than all does now, brings more still at i, where as many come -/
theorem pv_B1_more {s j i C : Nat} (hj : j < M 0 1) (hi : 0 < i) (hi99 : i ≤ 99) (hD : pv_sw_ M s j (i - 1) ≤ pv_sw_ M s j i) (hC : pv_B0 M s ≤ C) (hW : C < pv_B1 M s j (i - 1)) : pv_B1 M s j (i - 1) < pv_B1 M s j i := by
  have hDe : pv_sw_ M s j i = pv_sw_ M s j (i - 1) := Nat.le_antisymm (pm_wd_anti (by omega)) hD
  have h0 := pv_V_without (c := pv_sc M s) (q := pv_sq M s) (P := pv_sp M s) (k := M 1 (M 5 s)) (n := M 0 1) (j := j) (x := pv_sq M s j) (p := pv_sp M s j) (p' := 0) hj
  rw [pn_up_id, pn_up_id] at h0
  have h1 := pv_V_more (c := pv_sc M s) (q := pv_sq M s) (P := pv_sp M s) (k := M 1 (M 5 s)) (n := M 0 1) (j := j) (x := pv_sw_ M s j (i - 1)) (p := i - 1) (p' := 0) hj (by omega) (Nat.lt_of_le_of_lt (Nat.le_trans h0 hC) hW)
  have e1 : pv_B1 M s j i = pv_V (pv_sc M s) (M 1 (M 5 s)) (pn_up (pv_sq M s) j (pv_sw_ M s j (i - 1))) (pn_up (pv_sp M s) j (i - 1 + 1)) (M 0 1) := by
    show pv_V (pv_sc M s) (M 1 (M 5 s)) (pn_up (pv_sq M s) j (pv_sw_ M s j i)) (pn_up (pv_sp M s) j i) (M 0 1) = _
    rw [hDe, show i - 1 + 1 = i by omega]
  rw [e1]
  exact h1
/-- where the two searches stand to each other -/
def pv_mo (M : pm_M) (s j T i : Nat) (mc fc br mr : Int32) : Prop := ∃ C R : Nat, mc = nI C ∧ mr = nI R - nI (pv_B0 M s) ∧ pv_B0 M s ≤ C ∧ C ≤ 63 * 20 * 99 ∧ R ≤ 63 * 20 * 99 ∧ ((R = C ∧ br = fc) ∨ (0 < i ∧ i ≤ T ∧ pv_sw_ M s j (i - 1) ≤ pv_sw_ M s j i ∧ C < pv_B1 M s j (i - 1) ∧ R = pv_B1 M s j (i - 1)))
theorem pz_most97 (hI : pm_I d M) (hJ : pm_J e M) {s j T : Nat} (hs : s < M 0 4) (hj : j < M 0 1) (hT : T ≤ 99) {z0 y0 : ya_D} (hz0 : pz_7 d z0) (hL0 : sa_L z0 (pv_sc M s) (pv_sq M s) (pv_sp M s) (M 1 (M 5 s)) (M 0 1)) (hy0 : pz_r e y0) {mc fc br mr : Int32} (h0 : ∃ C : Nat, mc = nI C ∧ mr = nI C - nI (pv_B0 M s) ∧ pv_B0 M s ≤ C ∧ C ≤ 63 * 20 * 99 ∧ br = fc) (K : Int32 → Int32 → ya_D → Option (Int32 × ya_D)) (K' : Int32 → Int32 → ya_D → Option (Int32 × ya_D)) :
    ∃ (mc' fc' mr' : Int32) (z y : ya_D), (∃ C : Nat, mc' = nI C ∧ mr' = nI C - nI (pv_B0 M s) ∧ pv_B0 M s ≤ C ∧ C ≤ 63 * 20 * 99) ∧ pz_7 d z ∧ sa_L z (pv_sc M s) (pv_sq M s) (pv_sp M s) (M 1 (M 5 s)) (M 0 1) ∧ pz_r e y ∧ f_X11_most_L97 (nI s) (nI (M 5 s)) (nI j) (nI T) K ya_F mc fc (nI 0) z0 = K mc' fc' z ∧ f_X12_most_L57 (nI s) (nI j) (nI T) K' ya_F br mr (nI 0) y0 = K' fc' mr' y := by
  have hb := pm_b hI.2.2
  have hB0 : pv_B0 M s ≤ 63 * 20 * 99 := pv_B_le hI.2.2 (fun t _ => pv_sq_le hI.2.2 t)
  have key := pq_lp2 (G := fun fu i (a : Int32 × Int32 × ya_D) => f_X11_most_L97 (nI s) (nI (M 5 s)) (nI j) (nI T) K fu a.1 a.2.1 (nI i) a.2.2) (E := fun (a : Int32 × Int32 × ya_D) => K a.1 a.2.1 a.2.2) (G' := fun fu i (b : Int32 × Int32 × ya_D) => f_X12_most_L57 (nI s) (nI j) (nI T) K' fu b.1 b.2.1 (nI i) b.2.2) (E' := fun (b : Int32 × Int32 × ya_D) => K' b.1 b.2.1 b.2.2) (n := T + 1)
    (I := fun i a b => pv_mo M s j T i a.1 a.2.1 b.1 b.2.1 ∧ pz_7 d a.2.2 ∧ sa_L a.2.2 (pv_sc M s) (pv_sq M s) (pv_sp M s) (M 1 (M 5 s)) (M 0 1) ∧ pz_r e b.2.2)
    (Q := fun a b => (∃ C : Nat, a.1 = nI C ∧ b.2.1 = nI C - nI (pv_B0 M s) ∧ pv_B0 M s ≤ C ∧ C ≤ 63 * 20 * 99) ∧ b.1 = a.2.1 ∧ pz_7 d a.2.2 ∧ sa_L a.2.2 (pv_sc M s) (pv_sq M s) (pv_sp M s) (M 1 (M 5 s)) (M 0 1) ∧ pz_r e b.2.2)
    (fun fu a b hI2 => ?_) (fun fu i a b hi hI2 => ?_) ya_F 0 (mc, fc, z0) (br, mr, y0) (by omega) (by unfold ya_F; omega) ⟨?_, hz0, hL0, hy0⟩
  · obtain ⟨a, b, ⟨q1, q2, q3, q4, q5⟩, k1, k2⟩ := key
    refine ⟨a.1, a.2.1, b.2.1, a.2.2, b.2.2, q1, q3, q4, q5, k1, ?_⟩
    rw [← q2]; exact k2
  · obtain ⟨⟨C, R, h1, h2, h3, h4, h5, h6⟩, q2, q3, q4⟩ := hI2
    rcases h6 with ⟨rfl, h7⟩ | ⟨_, h8, _⟩
    · refine ⟨a, b, ⟨⟨R, h1, h2, h3, h4⟩, h7, q2, q3, q4⟩, ?_, ?_⟩
      · show f_X11_most_L97 _ _ _ _ _ (fu + 1) _ _ _ _ = _
        rw [f_X11_most_L97, if_pos (nI_lt (by omega) (by omega))]
      · show f_X12_most_L57 _ _ _ _ (fu + 1) _ _ _ _ = _
        rw [f_X12_most_L57, if_pos (nI_lt (by omega) (by omega))]
    · omega
  · obtain ⟨mc, fc, z⟩ := a
    obtain ⟨br, mr, y⟩ := b
    obtain ⟨⟨C, R, h1, h2, h3, h4, h5, h6⟩, q2, q3, q4⟩ := hI2
    simp only at h1 h2 h6 q2 q3 q4
    subst h1 h2
    obtain ⟨z', G1, G2, G3⟩ := sa_at11 hI hs hj (show i ≤ 99 by omega) q2 q3
    obtain ⟨y', H1, H2⟩ := sb_made (pz_r_J hJ q4) hs hj (show i ≤ 99 by omega)
    have hWb : pv_B1 M s j i ≤ 63 * 20 * 99 := pv_B1_le hI.2.2
    have hIz := pz_7_I hI q2
    have h3s := (pk_w hI.2.2).2.2.2.1 s hs
    have c31 := ((pk_c hIz.1).2.2.2.2.2.2.2.2.1 s hs).1
    have hwf : ∀ x, x ≤ 100 → f_X11_wantedFor (nI s) (nI j) (nI x) z = some (nI (pv_sw_ M s j x)) := by
      intro x hx
      unfold f_X11_wantedFor
      rw [pn_rI (by omega) (by omega), pb_s, c31, pk_wanted hIz.1 hI.2.2 (by omega) (by omega) (by omega), pb_s]
    have hdb : ∀ x, pv_sw_ M s j x ≤ 63 := fun x => pm_wd_le hI.2.2 (Nat.le_refl _)
    -- the reference's step
    have hr : f_X12_most_L57 (nI s) (nI j) (nI T) K' (fu + 1) br (nI R - nI (pv_B0 M s)) (nI i) y = if R < pv_B1 M s j i then f_X12_most_L57 (nI s) (nI j) (nI T) K' fu (100 * nI j + nI i) (nI (pv_B1 M s j i) - nI (pv_B0 M s)) (nI (i + 1)) y' else f_X12_most_L57 (nI s) (nI j) (nI T) K' fu br (nI R - nI (pv_B0 M s)) (nI (i + 1)) y' := by
      rw [f_X12_most_L57, if_neg (nI_nlt (by omega) (by omega)), H2, ya_b2s, pj_2, nI_1]
      by_cases c : R < pv_B1 M s j i
      · rw [if_pos c, if_pos ((pn_subg (by omega) (by omega) (by omega)).mpr c)]
      · rw [if_neg c, if_neg (fun q => c ((pn_subg (by omega) (by omega) (by omega)).mp q))]
    have hup : (0 < i ∧ i ≤ T ∧ pv_sw_ M s j (i - 1) ≤ pv_sw_ M s j i ∧ C < pv_B1 M s j (i - 1) ∧ R = pv_B1 M s j (i - 1)) → R < pv_B1 M s j i ∧ C < R := by
      rintro ⟨u1, u2, u3, u4, rfl⟩
      exact ⟨pv_B1_more hj u1 (by omega) u3 h3 u4, u4⟩
    by_cases hskip : i ≠ T ∧ pv_sw_ M s j i ≤ pv_sw_ M s j (i + 1)
    · have hc : f_X11_most_L97 (nI s) (nI (M 5 s)) (nI j) (nI T) K (fu + 1) (nI C) fc (nI i) z = f_X11_most_L97 (nI s) (nI (M 5 s)) (nI j) (nI T) K fu (nI C) fc (nI (i + 1)) z := by
        have g1 := hdb i
        have g2 := hdb (i + 1)
        rw [f_X11_most_L97, if_neg (nI_nlt (by omega) (by omega)), pj_3, pj_0, if_neg (fun q => hskip.1 ((nI_eq (by omega) (by omega)).mp q)), nI_1, hwf (i + 1) (by omega), pb_s, hwf i (by omega), pb_s, if_pos (nI_le hskip.2 (by omega))]
      by_cases c : R < pv_B1 M s j i
      · refine ⟨(nI C, fc, z), (100 * nI j + nI i, nI (pv_B1 M s j i) - nI (pv_B0 M s), y'), ⟨⟨C, pv_B1 M s j i, rfl, rfl, h3, h4, hWb, Or.inr ⟨by omega, by omega, by rw [Nat.add_sub_cancel]; exact hskip.2, ?_, by rw [Nat.add_sub_cancel]⟩⟩, q2, q3, pz_r_t q4 H1⟩, hc, hr.trans (if_pos c)⟩
        rw [Nat.add_sub_cancel]
        rcases h6 with ⟨h7, _⟩ | h7
        · omega
        · have := (hup h7).2; omega
      · rcases h6 with h7 | h7
        · exact ⟨(nI C, fc, z), (br, nI R - nI (pv_B0 M s), y'), ⟨⟨C, R, rfl, rfl, h3, h4, h5, Or.inl h7⟩, q2, q3, pz_r_t q4 H1⟩, hc, hr.trans (if_neg c)⟩
        · exact absurd (hup h7).1 c
    · have hc : f_X11_most_L97 (nI s) (nI (M 5 s)) (nI j) (nI T) K (fu + 1) (nI C) fc (nI i) z = if pv_B1 M s j i ≤ C then f_X11_most_L97 (nI s) (nI (M 5 s)) (nI j) (nI T) K fu (nI C) fc (nI (i + 1)) z' else f_X11_most_L97 (nI s) (nI (M 5 s)) (nI j) (nI T) K fu (nI (pv_B1 M s j i)) (100 * nI j + nI i) (nI (i + 1)) z' := by
        have g1 := hdb i
        have g2 := hdb (i + 1)
        rw [f_X11_most_L97, if_neg (nI_nlt (by omega) (by omega)), pj_3, pj_0, G3, ya_b2s, nI_1]
        have hin : (if nI (pv_B1 M s j i) ≤ nI C then f_X11_most_L97 (nI s) (nI (M 5 s)) (nI j) (nI T) K fu (nI C) fc (nI (i + 1)) z' else f_X11_most_L97 (nI s) (nI (M 5 s)) (nI j) (nI T) K fu (nI (pv_B1 M s j i)) (100 * nI j + nI i) (nI (i + 1)) z') = if pv_B1 M s j i ≤ C then f_X11_most_L97 (nI s) (nI (M 5 s)) (nI j) (nI T) K fu (nI C) fc (nI (i + 1)) z' else f_X11_most_L97 (nI s) (nI (M 5 s)) (nI j) (nI T) K fu (nI (pv_B1 M s j i)) (100 * nI j + nI i) (nI (i + 1)) z' := by
          by_cases c : pv_B1 M s j i ≤ C
          · rw [if_pos c, if_pos (nI_le c (by omega))]
          · rw [if_neg c, if_neg (nI_ge (by omega) (by omega))]
        by_cases c1 : i = T
        · rw [if_pos (by rw [c1])]
          exact hin
        · have c2 : ¬ pv_sw_ M s j i ≤ pv_sw_ M s j (i + 1) := fun h => hskip ⟨c1, h⟩
          rw [if_neg (fun q => c1 ((nI_eq (by omega) (by omega)).mp q)), hwf (i + 1) (by omega), pb_s, hwf i (by omega), pb_s, if_neg (nI_ge (by omega) (by omega))]
          exact hin
      by_cases c : pv_B1 M s j i ≤ C
      · rcases h6 with h7 | h7
        · exact ⟨(nI C, fc, z'), (br, nI R - nI (pv_B0 M s), y'), ⟨⟨C, R, rfl, rfl, h3, h4, h5, Or.inl h7⟩, G2, G1, pz_r_t q4 H1⟩, hc.trans (if_pos c), hr.trans (if_neg (by omega))⟩
        · have := hup h7; omega
      · have hRW : R < pv_B1 M s j i := by
          rcases h6 with ⟨h7, _⟩ | h7
          · omega
          · exact (hup h7).1
        exact ⟨(nI (pv_B1 M s j i), 100 * nI j + nI i, z'), (100 * nI j + nI i, nI (pv_B1 M s j i) - nI (pv_B0 M s), y'), ⟨⟨pv_B1 M s j i, pv_B1 M s j i, rfl, rfl, by omega, hWb, hWb, Or.inl ⟨rfl, rfl⟩⟩, G2, G1, pz_r_t q4 H1⟩, hc.trans (if_neg c), hr.trans (if_pos hRW)⟩
  · obtain ⟨C, u1, u2, u3, u4, u5⟩ := h0
    exact ⟨C, C, u1, u2, u3, u4, u4, Or.inl ⟨rfl, u5⟩⟩
theorem pz_most0 (hI : pm_I d M) (hJ : pm_J e M) {s : Nat} (hs : s < M 0 4) : ∃ (r : Int32) (d' e' : ya_D), pz_7 d d' ∧ pz_r e e' ∧ f_X11_most (nI s) d = some (r, d') ∧ f_X12_most (nI s) e = some (r, e') := by
  obtain ⟨⟨b0, b1, b2, b3, b4, b5⟩, w1, w2, w3, -, w5⟩ := pk_w hI.2.2
  have h3 := w3 s hs
  have hB0 : pv_B0 M s ≤ 63 * 20 * 99 := pv_B_le hI.2.2 (fun t _ => pv_sq_le hI.2.2 t)
  obtain ⟨d1, A1, A2, A3⟩ := sa_load hI hs
  obtain ⟨d2, B1, B2, B3⟩ := sa_bring7 A1
  have hsub : nI (pv_B0 M s) - nI (pv_B0 M s) = nI 0 := Int32.sub_self _
  have key := pq_lp2 (G := fun fu i (a : Int32 × Int32 × ya_D) => f_X11_most_L50 (nI s) (nI (M 5 s)) fu a.1 a.2.1 (nI i) a.2.2) (E := fun (a : Int32 × ya_D) => some a) (G' := fun fu i (b : Int32 × Int32 × ya_D) => f_X12_most_L18 (nI s) fu b.1 b.2.1 (nI i) b.2.2) (E' := fun (b : Int32 × ya_D) => some b) (n := M 0 1)
    (I := fun i a b => (∃ C : Nat, a.1 = nI C ∧ b.2.1 = nI C - nI (pv_B0 M s) ∧ pv_B0 M s ≤ C ∧ C ≤ 63 * 20 * 99 ∧ b.1 = a.2.1) ∧ pz_7 d a.2.2 ∧ sa_L a.2.2 (pv_sc M s) (pv_sq M s) (pv_sp M s) (M 1 (M 5 s)) (M 0 1) ∧ pz_r e b.2.2)
    (Q := fun a b => b.1 = a.1 ∧ pz_7 d a.2 ∧ pz_r e b.2)
    (fun fu a b hI2 => ?_) (fun fu i a b hi hI2 => ?_) ya_F 0 (nI (pv_B0 M s), -1, d2) (-1, nI 0, e) (by omega) (by unfold ya_F; omega) ⟨⟨pv_B0 M s, rfl, hsub.symm, Nat.le_refl _, hB0, rfl⟩, pz_7_t A2 B2, B1, pz_r_r⟩
  · obtain ⟨a, b, ⟨q1, q2, q3⟩, k1, k2⟩ := key
    have c31 := ((pk_c (pz_7_I hI A2).1).2.2.2.2.2.2.2.2.1 s hs).1
    refine ⟨a.1, a.2, b.2, q2, q3, ?_, ?_⟩
    · unfold f_X11_most
      rw [pm_isSeller1 hI, Option.bind_some, if_pos (pn_ok_nI hs (by omega)), if_neg pn_10, A3, pb_s, pn_rI (by omega) (by omega), pb_s, c31, B3, ya_b2s, pl_0]
      exact k1
    · unfold f_X12_most
      rw [pm_isSeller2 hJ, Option.bind_some, if_pos (pn_ok_nI hs (by omega)), if_neg pn_10, pl_0, ← q1]
      exact k2
  · obtain ⟨⟨C, h1, h2, h3', h4, h5⟩, q2, q3, q4⟩ := hI2
    refine ⟨(a.2.1, a.2.2), (b.1, b.2.2), ⟨h5, q2, q4⟩, ?_, ?_⟩
    · show f_X11_most_L50 _ _ (fu + 1) _ _ _ _ = _
      rw [f_X11_most_L50, q2.1 24 (by omega), (pk_c hI.1).2.1, if_pos (nI_le (Nat.le_refl _) (by omega))]
    · show f_X12_most_L18 _ (fu + 1) _ _ _ _ = _
      rw [f_X12_most_L18, pm_dy2 (pz_r_J hJ q4), pb_s, if_pos (nI_le (Nat.le_refl _) (by omega))]
  · obtain ⟨h0, q2, q3, q4⟩ := hI2
    have hp := (w2 (M 5 s) i h3.1 hi).1
    have hIz := pz_7_I hI q2
    have hJy := pz_r_J hJ q4
    have hcz := pk_c hIz.1
    obtain ⟨mc', fc', mr', z, y, g1, g2, g3, g4, g5, g6⟩ := pz_most97 hI hJ (T := min 99 (M 2 (20 * M 5 s + i) + M 0 2)) hs hi (by omega) q2 q3 q4 h0 (fun v3_170 v4_170 d_170 => f_X11_most_L50 (nI s) (nI (M 5 s)) fu v3_170 v4_170 (nI i + 1) d_170) (fun v2_102 v3_102 d_102 => f_X12_most_L18 (nI s) fu v2_102 v3_102 (nI i + 1) d_102)
    obtain ⟨C, u1, u2, u3, u4⟩ := g1
    refine ⟨(mc', fc', z), (fc', mr', y), ⟨⟨C, u1, u2, u3, u4, rfl⟩, g2, g3, g4⟩, ?_, ?_⟩
    · show f_X11_most_L50 _ _ (fu + 1) _ _ _ _ = f_X11_most_L50 _ _ fu _ _ _ _
      rw [f_X11_most_L50, hcz.2.1, if_neg (nI_ge hi (by omega)), pm_cell1, pb_s, pn_rI (by omega) (by omega), pb_s, (hcz.2.2.2.2.2.2.2.1 (M 5 s) i h3.1 hi).1, hcz.2.2.1, nI_add, pl_99, pm_min (by omega) (by omega), pl_0, g5, nI_1]
    · show f_X12_most_L18 _ (fu + 1) _ _ _ _ = f_X12_most_L18 _ fu _ _ _ _
      have hcap : ya_rI b.2.2 84 468 5 = some (nI (M 0 2)) := (pn_rI (t := 5) (by omega) (by omega)).trans (congrArg some (pk_r hJy.1).2.2.1)
      rw [f_X12_most_L18, pm_dy2 hJy, pb_s, if_neg (nI_ge hi (by omega)), pk_thing hJy.1 hJy.2 hs, pb_s, pm_p2 hJy h3.1 hi, pb_s, hcap, pb_s, nI_add, pl_99, pm_min (by omega) (by omega), pl_0, g6, nI_1]
theorem pz_most (hI : pm_I d M) (hY : pz_Y d M) (v : Int32) : pz_op d M (f_X11_most v) (f_X12_most v) := by
  by_cases e1 : pn_ok v (M 0 4)
  · obtain ⟨s, hs, hs3, rfl⟩ := pn_ok_ex e1
    obtain ⟨r0, d1, -, A1, -, A3, -⟩ := pz_most0 hI hI.2 hs
    obtain ⟨C1, C2, C3⟩ := pz_7_A hI hY A1
    obtain ⟨r, d1', d2, B1, B2, B3, B4⟩ := pz_most0 hI C1.2 hs
    rw [A3] at B3
    obtain ⟨rfl, rfl⟩ := Prod.mk.inj (Option.some.inj B3)
    obtain ⟨E1, E2, E3⟩ := pz_r_A C1 C2 B2
    exact ⟨r0, d1, d2, M, A3, B4, E1, E2, pz_F_t C3 E3⟩
  · refine pz_no hI hY (r := -2) ?_ ?_
    · unfold f_X11_most
      rw [pm_isSeller1 hI, Option.bind_some, if_neg e1, if_pos rfl]
    · unfold f_X12_most
      rw [pm_isSeller2 hI.2, Option.bind_some, if_neg e1, if_pos rfl]
end
