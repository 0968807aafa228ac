/-! like -/
section
variable {d e : ya_D} {M M' : pm_M}
theorem pm_C_price {d : ya_D} {M : pm_M} {i v : Nat} (h : pm_C d 24 M) : pm_C (ya_sI d 27 i (nI v)) 24 (pm_up M 2 i v) := by
  obtain ⟨h0, h1, h2, h3, h4, h5, h6, h7, h8, h9, h10⟩ := h
  refine ⟨h0, h1, h2, h3, h4, h5, h6, fun x t hx ht => ⟨?_, (h7 x t hx ht).2.1, (h7 x t hx ht).2.2⟩, h8, h9, h10⟩
  by_cases e : 20 * x + t = i
  · rw [e, pm_upe]
    exact pn_sIe
  · rw [pm_upn (fun _ => e), pn_sIn (fun _ => e)]
    exact (h7 x t hx ht).1
theorem pz_like0 (hI : pm_I d M) (hJ : pm_J e M) {x y z n k : Nat} (hx : x < M 0 3) (hy : y < M 0 3) (hz : z < M 0 3) (hn : n ≤ 9) (hk : k ≤ 9) (hnk : n + k ≠ 0) :
    ∃ (r : Int32) (d' e' : ya_D) (M1 : pm_M), pm_C d' 24 M1 ∧ pm_R e' 84 0 M1 ∧ pm_W M1 ∧ (∀ a, a ≠ 27 → a ≠ 0 → d'.1 a = d.1 a) ∧ d'.1 0 9 = 0 ∧ d'.2 = d.2 ∧ (∀ a, a ≠ 84 → e'.1 a = e.1 a) ∧ e'.2 = e.2 ∧ f_X11_like_L86 (nI x) (nI y) (nI n) (nI z) (nI k) ya_F (nI 0) (nI 0) d = some (r, d') ∧ f_X12_like_L69 (nI x) (nI y) (nI n) (nI z) (nI k) ya_F (nI 0) (nI 0) e = some (r, e') := by
  have hb := pm_b hI.2.2
  have key := pq_lp2 (G := fun fu i (s : Int32 × ya_D) => f_X11_like_L86 (nI x) (nI y) (nI n) (nI z) (nI k) fu s.1 (nI i) s.2) (E := fun (s : Int32 × ya_D) => some (s.1, ya_sI s.2 0 9 0)) (G' := fun fu i (s : Int32 × ya_D) => f_X12_like_L69 (nI x) (nI y) (nI n) (nI z) (nI k) fu s.1 (nI i) s.2) (E' := fun (s : Int32 × ya_D) => some s) (n := M 0 1)
    (I := fun i s s' => s.1 = s'.1 ∧ ∃ M1 : pm_M, pm_C s.2 24 M1 ∧ pm_R s'.2 84 0 M1 ∧ pm_W M1 ∧ (∀ j, M1 0 j = M 0 j) ∧ (∀ a, a ≠ 27 → s.2.1 a = d.1 a) ∧ s.2.2 = d.2 ∧ (∀ a, a ≠ 84 → s'.2.1 a = e.1 a) ∧ s'.2.2 = e.2)
    (Q := fun s s' => s.1 = s'.1 ∧ ∃ M1 : pm_M, pm_C s.2 24 M1 ∧ pm_R s'.2 84 0 M1 ∧ pm_W M1 ∧ (∀ j, M1 0 j = M 0 j) ∧ (∀ a, a ≠ 27 → s.2.1 a = d.1 a) ∧ s.2.2 = d.2 ∧ (∀ a, a ≠ 84 → s'.2.1 a = e.1 a) ∧ s'.2.2 = e.2)
    (fun fu s s' hI2 => ?_) (fun fu i s s' hi hI2 => ?_) ya_F 0 (nI 0, d) (nI 0, e) (by omega) (by unfold ya_F; omega) ⟨rfl, M, hI.1, hJ.1, hI.2.2, fun _ => rfl, fun _ _ => rfl, rfl, fun _ _ => rfl, rfl⟩
  · obtain ⟨s, s', ⟨q1, M1, q2, q3, q4, q5, q6, q7, q8, q9⟩, k1, k2⟩ := key
    refine ⟨s.1, ya_sI s.2 0 9 0, s'.2, M1, pm_C_c q2 (fun a k h1 h2 => pn_o (by omega)), q3, q4, fun a g1 g2 => (rw_n g2).trans (q6 a g1), pn_e ⟨rfl, rfl⟩, q7, q8, q9, k1, ?_⟩
    rw [q1]; exact k2
  · obtain ⟨q1, M1, q2, q3, q4, q5, q6, q7, q8, q9⟩ := hI2
    refine ⟨s, s', ⟨q1, M1, q2, q3, q4, q5, q6, q7, q8, q9⟩, ?_, ?_⟩
    · show f_X11_like_L86 _ _ _ _ _ (fu + 1) _ _ _ = _
      rw [f_X11_like_L86, (pk_c q2).2.1, q5, if_pos (nI_le (Nat.le_refl _) (by omega)), pb_pI, pb_s]
    · show f_X12_like_L69 _ _ _ _ _ (fu + 1) _ _ _ = _
      rw [f_X12_like_L69, pm_dy2 ⟨q3, q4⟩, pb_s, q5, if_pos (nI_le (Nat.le_refl _) (by omega))]
  · obtain ⟨q1, M1, q2, q3, q4, q5, q6, q7, q8, q9⟩ := hI2
    obtain ⟨r1, d1⟩ := s
    obtain ⟨r2, e1⟩ := s'
    simp only at q1 q2 q3 q6 q7 q8 q9
    subst q1
    have hx1 : x < M1 0 3 := by rw [q5]; exact hx
    have hy1 : y < M1 0 3 := by rw [q5]; exact hy
    have hz1 : z < M1 0 3 := by rw [q5]; exact hz
    have hi1 : i < M1 0 1 := by rw [q5]; exact hi
    have hb1 := pm_b q4
    have p1 := pm_pr q4 hy1 hi1
    have p2 := pm_pr q4 hz1 hi1
    have c1 := ((pk_c q2).2.2.2.2.2.2.2.1 y i hy1 hi1).1
    have c2 := ((pk_c q2).2.2.2.2.2.2.2.1 z i hz1 hi1).1
    have m1 : n * M1 2 (20 * y + i) ≤ n * 99 := Nat.mul_le_mul_left n p1.1
    have m2 : k * M1 2 (20 * z + i) ≤ k * 99 := Nat.mul_le_mul_left k p2.1
    have hv : (n * M1 2 (20 * y + i) + k * M1 2 (20 * z + i)) / (n + k) ≤ 99 := by
      apply Nat.div_le_of_le_mul
      rw [Nat.add_mul]; omega
    have hR := pm_R_price (i := 20 * x + i) (v := (n * M1 2 (20 * y + i) + k * M1 2 (20 * z + i)) / (n + k)) (by omega) q4 q3
    rw [Nat.zero_add] at hR
    have hdv : ya_dv (nI n * nI (M1 2 (20 * y + i)) + nI k * nI (M1 2 (20 * z + i))) (nI n + nI k) = some (nI ((n * M1 2 (20 * y + i) + k * M1 2 (20 * z + i)) / (n + k))) := by
      unfold ya_dv
      rw [pn_mul, pn_mul, nI_add, nI_add, if_neg (nI_ne0 (by omega) (by omega)), pk_div (by omega) (by omega) (by omega)]
    refine ⟨(r1 + nI ((n * M1 2 (20 * y + i) + k * M1 2 (20 * z + i)) / (n + k)), ya_sI d1 27 (20 * x + i) (nI ((n * M1 2 (20 * y + i) + k * M1 2 (20 * z + i)) / (n + k)))), (r1 + nI ((n * M1 2 (20 * y + i) + k * M1 2 (20 * z + i)) / (n + k)), ya_sI e1 84 (11 + (20 * x + i)) (nI ((n * M1 2 (20 * y + i) + k * M1 2 (20 * z + i)) / (n + k)))), ⟨rfl, pm_up M1 2 (20 * x + i) ((n * M1 2 (20 * y + i) + k * M1 2 (20 * z + i)) / (n + k)), pm_C_price q2, hR, pm_W_price hv q4, fun j => q5 j, fun a ha => (rw_n ha).trans (q6 a ha), q7, fun a ha => (rw_n ha).trans (q8 a ha), q9⟩, ?_, ?_⟩
    · show f_X11_like_L86 _ _ _ _ _ (fu + 1) _ _ _ = f_X11_like_L86 _ _ _ _ _ fu _ _ _
      rw [f_X11_like_L86, (pk_c q2).2.1, if_neg (nI_ge hi1 (by omega)), pm_cell1, pb_s, pn_rI (by omega) (by omega), pb_s, pm_cell1, pb_s, pn_rI (by omega) (by omega), pb_s, pm_cell1, pb_s, c1, c2, hdv, pb_s, pn_wI (by omega) (by omega), pb_s, pb_s, pn_rI (by omega) (by omega), pb_s, pn_e ⟨rfl, rfl⟩, nI_1]
    · show f_X12_like_L69 _ _ _ _ _ (fu + 1) _ _ _ = f_X12_like_L69 _ _ _ _ _ fu _ _ _
      rw [f_X12_like_L69, pm_dy2 ⟨q3, q4⟩, pb_s, if_neg (nI_ge hi1 (by omega)), pm_p2 ⟨q3, q4⟩ hy1 hi1, pb_s, pm_p2 ⟨q3, q4⟩ hz1 hi1, pb_s, hdv, pb_s, pm_cell2, pb_s, pl_11, nI_add, pn_wI (by omega) (by omega), pb_s, nI_1]
theorem pz_like (hI : pm_I d M) (hY : pz_Y d M) (v1 v2 v3 v4 v5 : Int32) : pz_op d M (f_X11_like v1 v2 v3 v4 v5) (f_X12_like v1 v2 v3 v4 v5) := by
  have hb := pm_b hI.2.2
  have noA : ∀ z, pm_I z M → (¬ (pn_ok v1 (M 0 3) ∧ pn_ok v2 (M 0 3) ∧ pn_ok v4 (M 0 3) ∧ pn_ok v3 10 ∧ pn_ok v5 10 ∧ ¬ v3 + v5 = 0)) → f_X11_like v1 v2 v3 v4 v5 z = some (-2, z) ∧ f_X12_like v1 v2 v3 v4 v5 z = some (-2, z) := by
    intro z hz hno
    unfold f_X11_like f_X12_like
    rw [pm_isThing1 hz, pm_isThing1 hz, pm_isThing1 hz, pm_isThing2 hz.2, pm_isThing2 hz.2, pm_isThing2 hz.2, pn_wN _ 10 9 (by decide), pn_wN _ 10 9 (by decide), pn_inN _ 10 9 (by decide), pn_inN _ 10 9 (by decide)]
    simp only [pj_0, pj_1, pb_s]
    by_cases g1 : pn_ok v1 (M 0 3)
    · by_cases g2 : pn_ok v2 (M 0 3)
      · by_cases g3 : pn_ok v4 (M 0 3)
        · by_cases g4 : pn_ok v3 10
          · by_cases g5 : pn_ok v5 10
            · have g6 : v3 + v5 = 0 := Classical.byContradiction (fun q => hno ⟨g1, g2, g3, g4, g5, q⟩)
              simp only [if_pos g1, if_pos g2, if_pos g3, if_pos g4, if_pos g5, if_pos g6, if_neg pn_10, and_self]
            · simp only [if_pos g1, if_pos g2, if_pos g3, if_pos g4, if_neg g5, if_neg pn_10, if_true, and_self]
          · simp only [if_pos g1, if_pos g2, if_pos g3, if_neg g4, if_neg pn_10, if_true, and_self]
        · simp only [if_pos g1, if_pos g2, if_neg g3, if_neg pn_10, if_true, and_self]
      · simp only [if_pos g1, if_neg g2, if_neg pn_10, if_true, and_self]
    · simp only [if_neg g1, if_true, and_self]
  by_cases hyes : pn_ok v1 (M 0 3) ∧ pn_ok v2 (M 0 3) ∧ pn_ok v4 (M 0 3) ∧ pn_ok v3 10 ∧ pn_ok v5 10 ∧ ¬ v3 + v5 = 0
  · obtain ⟨g1, g2, g3, g4, g5, g6⟩ := hyes
    have yes : ∀ z, pm_J z M → f_X12_like v1 v2 v3 v4 v5 z = f_X12_like_L69 v1 v2 v3 v4 v5 ya_F (nI 0) (nI 0) z := by
      intro z hR
      unfold f_X12_like
      rw [pm_isThing2 hR, pm_isThing2 hR, pm_isThing2 hR, pn_inN _ 10 9 (by decide), pn_inN _ 10 9 (by decide), if_pos g1, if_pos g2, if_pos g3, if_pos g4, if_pos g5]
      simp only [pj_0, pb_s, if_neg pn_10, if_neg g6]
      rfl
    have yes1 : f_X11_like v1 v2 v3 v4 v5 d = f_X11_like_L86 v1 v2 v3 v4 v5 ya_F (nI 0) (nI 0) d := by
      unfold f_X11_like
      rw [pm_isThing1 hI, pm_isThing1 hI, pm_isThing1 hI, pn_wN _ 10 9 (by decide), pn_wN _ 10 9 (by decide), if_pos g1, if_pos g2, if_pos g3, if_pos g4, if_pos g5]
      simp only [pj_0, pj_1, pb_s, if_neg pn_10, if_neg g6]
      rfl
    obtain ⟨x, hx, hx3, rfl⟩ := pn_ok_ex g1
    obtain ⟨y, hy, hy3, rfl⟩ := pn_ok_ex g2
    obtain ⟨z, hz, hz3, rfl⟩ := pn_ok_ex g3
    obtain ⟨n, hn, hn3, rfl⟩ := pn_ok_ex g4
    obtain ⟨k, hk, hk3, rfl⟩ := pn_ok_ex g5
    have hnk : n + k ≠ 0 := fun q => g6 (by rw [nI_add, q]; rfl)
    obtain ⟨r, d1, -, M1, A1, -, A3, A4, A5, A6, -, -, A7, -⟩ := pz_like0 hI hI.2 hx hy hz (by omega) (by omega) hnk
    have hJ1 : pm_J d1 M := ⟨pm_R_c hI.2.1 (fun q => congrFun (A4 84 (by omega) (by omega)) q), hI.2.2⟩
    obtain ⟨r', d1', d2, M2, B1, B2, B3, B4, B5, B6, B7, B8, B9, B10⟩ := pz_like0 hI hJ1 hx hy hz (by omega) (by omega) hnk
    rw [A7] at B9
    obtain ⟨rfl, rfl⟩ := Prod.mk.inj (Option.some.inj B9)
    refine ⟨r, d1, d2, M2, yes1.trans A7, (yes d1 hJ1).trans B10, ⟨pm_C_c B1 (fun a q h1 h2 => congrFun (B7 a (by omega)) q), B2, B3⟩, Or.inl ?_, ⟨fun a q h => ?_, fun a q _ _ _ _ => ?_⟩⟩
    · rw [B7 0 (by omega)]; exact A5
    · unfold pz_s at h
      rw [B7 a (by omega), A4 a (by omega) (by omega)]
    · rw [B8, A6]
  · obtain ⟨q1, q2⟩ := noA d hI hyes
    exact pz_no hI hY q1 q2
end
