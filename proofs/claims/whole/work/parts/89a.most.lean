/-! A seller alone: keeping, enough, made, least, most -/
theorem pn_subl {x y g : Nat} (hx : x < 2 ^ 30) (hy : y < 2 ^ 30) (hg : g < 2 ^ 30) : nI x - nI y < nI g ↔ x < y + g := by
  rw [Int32.lt_iff_toInt_lt, pk_sub_toInt hx hy, nI_toInt (by omega)]; omega
theorem pn_subg {x y z : Nat} (hx : x < 2 ^ 29) (hy : y < 2 ^ 29) (hz : z < 2 ^ 29) : nI z - nI y < nI x - nI y ↔ z < x := by
  rw [Int32.lt_iff_toInt_lt, pk_sub_toInt (by omega) (by omega), pk_sub_toInt (by omega) (by omega)]; omega
section
variable {d e : ya_D} {M : pm_M}
/-- the class's keeping, where it may be asked -/
theorem sa_keeping (hI : pm_I d M) {s x : Nat} (hs : s < M 0 4) (hx : x ≤ 30) : ∃ d', pz_7 d d' ∧ f_X11_keeping (nI s) (nI x) d = some (nI (pv_B M s x (pv_sq M s) (pv_sp M s)), d') := by
  have hb := pm_b hI.2.2
  obtain ⟨d1, A1, A2, A3⟩ := sa_load hI hs
  obtain ⟨b1, b2, b3, b4, b5, h6, h7, hr⟩ := A1
  have A1' : sa_L (ya_sI d1 72 7 (nI x)) (pv_sc M s) (pv_sq M s) (pv_sp M s) x (M 0 1) := ⟨b1, hx, b3, b4, b5, (pn_o (by omega)).trans h6, pn_e ⟨rfl, rfl⟩, fun t ht => by
    rw [pn_o (by omega), pn_o (by omega), pn_o (by omega)]; exact hr t ht⟩
  obtain ⟨d2, B1, B2, B3⟩ := sa_bring7 A1'
  refine ⟨d2, pz_7_t A2 ⟨fun a ha => (B2.1 a ha).trans (rw_n (by omega)), B2.2⟩, ?_⟩
  unfold f_X11_keeping
  rw [pm_isSeller1 hI, Option.bind_some, if_pos (pn_ok_nI hs (by omega)), pj_0, if_neg pn_10, pn_wN _ 31 30 (by decide), Option.bind_some, if_pos (pn_ok_nI (show x < 31 by omega) (by omega)), if_neg pn_10, A3, pb_s, pb_pI, pb_s, B3, ya_b2s]
  rfl
theorem pz_keeping (hI : pm_I d M) (hY : pz_Y d M) (v w : Int32) : pz_op d M (f_X11_keeping v w) (f_X12_keeping v w) := by
  by_cases e1 : pn_ok v (M 0 4)
  · by_cases e2 : pn_ok w 31
    · obtain ⟨s, hs, hs3, rfl⟩ := pn_ok_ex e1
      obtain ⟨x, hx, hx3, rfl⟩ := pn_ok_ex e2
      obtain ⟨d1, A1, A2⟩ := sa_keeping hI (x := x) hs (by omega)
      obtain ⟨C1, C2, C3⟩ := pz_7_A hI hY A1
      obtain ⟨d2, D1, D2⟩ := sb_keep C1.2 (x := x) hs (by omega)
      obtain ⟨E1, E2, E3⟩ := pz_r_A C1 C2 D1
      refine ⟨_, d1, d2, M, A2, ?_, E1, E2, pz_F_t C3 E3⟩
      unfold f_X12_keeping
      rw [pm_isSeller2 C1.2, Option.bind_some, if_pos e1, pj_0, if_neg pn_10, pn_inN _ 31 30 (by decide), Option.bind_some, if_pos e2, if_neg pn_10, D2, ya_b2s]
    · refine pz_no hI hY (r := -2) ?_ ?_
      · unfold f_X11_keeping
        rw [pm_isSeller1 hI, Option.bind_some, if_pos e1, pj_0, if_neg pn_10, pn_wN _ 31 30 (by decide), Option.bind_some, if_neg e2, if_pos rfl]
      · unfold f_X12_keeping
        rw [pm_isSeller2 hI.2, Option.bind_some, if_pos e1, pj_0, if_neg pn_10, pn_inN _ 31 30 (by decide), Option.bind_some, if_neg e2, if_pos rfl]
  · refine pz_no hI hY (r := -2) ?_ ?_
    · unfold f_X11_keeping
      rw [pm_isSeller1 hI, Option.bind_some, if_neg e1, pj_0, if_pos rfl]
    · unfold f_X12_keeping
      rw [pm_isSeller2 hI.2, Option.bind_some, if_neg e1, pj_0, if_pos rfl]
/-- enough, from one class's memory over any reference's -/
theorem pz_enough0 (hI : pm_I d M) (hJ : pm_J e M) {s : Nat} (hs : s < M 0 4) : ∃ (r : Int32) (d' e' : ya_D), pz_7 d d' ∧ pz_r e e' ∧ f_X11_enough (nI s) d = some (r, d') ∧ f_X12_enough (nI s) e = some (r, e') := by
  have hb := pm_b hI.2.2
  obtain ⟨d1, A1, A2⟩ := sa_keeping hI (x := 30) hs (by omega)
  obtain ⟨e1, B1, B2⟩ := sb_keep hJ (x := 30) hs (by omega)
  obtain ⟨f, hf⟩ : ∃ f : Nat → Nat, f = fun x => pv_B M s x (pv_sq M s) (pv_sp M s) := ⟨_, rfl⟩
  have hfb : ∀ x, f x ≤ 63 * 20 * 99 := fun x => by rw [hf]; exact pv_B_le hI.2.2 (fun t _ => pv_sq_le hI.2.2 t)
  have hmono : ∀ x, x ≤ 30 → f x ≤ f 30 := fun x hx => by rw [hf]; exact pv_V_k hx
  have hf30 : pv_B M s 30 (pv_sq M s) (pv_sp M s) = f 30 := by rw [hf]
  rw [hf30] at A2 B2
  have key := pq_lp2x (G := fun fu i (z : ya_D) => f_X11_enough_L21 (nI s) (nI (f 30)) fu (nI i) z) (E := fun (z : Int32 × ya_D) => some z) (G' := fun fu i (y : ya_D) => f_X12_enough_L21 (nI s) (nI (f 30)) fu (nI i) y) (E' := fun (y : Int32 × ya_D) => some y) (n := 30)
    (I := fun i z y => pz_7 d z ∧ pz_r e y) (Q := fun z y => z.1 = y.1 ∧ pz_7 d z.2 ∧ pz_r e y.2)
    (fun fu z y hI2 => ?_) (fun fu i z y hi hI2 => ?_) ya_F 0 d1 e1 (by omega) (by unfold ya_F; omega) ⟨A1, B1⟩
  · obtain ⟨z, y, ⟨q1, q2, q3⟩, k1, k2⟩ := key
    refine ⟨z.1, z.2, y.2, q2, q3, ?_, ?_⟩
    · unfold f_X11_enough
      rw [pm_isSeller1 hI, Option.bind_some, if_pos (pn_ok_nI hs (by omega)), if_neg pn_10, show (30 : Int32) = nI 30 from rfl, A2, ya_b2s, pl_0]
      exact k1
    · unfold f_X12_enough
      rw [pm_isSeller2 hJ, Option.bind_some, if_pos (pn_ok_nI hs (by omega)), if_neg pn_10, show (30 : Int32) = nI 30 from rfl, B2, ya_b2s, pl_0, q1]
      exact k2
  · obtain ⟨q1, q2⟩ := hI2
    obtain ⟨y', H1, H2⟩ := sb_keep (pz_r_J hJ q2) (x := 30) hs (by omega)
    rw [hf30] at H2
    refine ⟨(nI 30, z), (nI 30, y'), ⟨rfl, q1, pz_r_t q2 H1⟩, ?_, ?_⟩
    · show f_X11_enough_L21 _ _ (fu + 1) _ _ = _
      rw [f_X11_enough_L21, if_pos (show (30 : Int32) ≤ nI 30 by decide)]
      rfl
    · show f_X12_enough_L21 _ _ (fu + 1) _ _ = _
      rw [f_X12_enough_L21, H2, ya_b2s, if_pos (Int32.le_refl _)]
  · obtain ⟨q1, q2⟩ := hI2
    obtain ⟨z', G1, G2⟩ := sa_keeping (pz_7_I hI q1) (x := i) hs (by omega)
    obtain ⟨y', H1, H2⟩ := sb_keep (pz_r_J hJ q2) (x := i) hs (by omega)
    have hfi : pv_B M s i (pv_sq M s) (pv_sp M s) = f i := by rw [hf]
    rw [hfi] at G2 H2
    have g1 := hfb i
    have g2 := hfb 30
    have g3 := hmono i (by omega)
    have c1 : f_X11_enough_L21 (nI s) (nI (f 30)) (fu + 1) (nI i) z = if nI (f i) = nI (f 30) then some (nI i, z') else f_X11_enough_L21 (nI s) (nI (f 30)) fu (nI (i + 1)) z' := by
      rw [f_X11_enough_L21, if_neg (show ¬ (30 : Int32) ≤ nI i from nI_ge (b := 30) hi (by omega)), G2, ya_b2s, nI_1]
    have c2 : f_X12_enough_L21 (nI s) (nI (f 30)) (fu + 1) (nI i) y = if nI (f 30) ≤ nI (f i) then some (nI i, y') else f_X12_enough_L21 (nI s) (nI (f 30)) fu (nI (i + 1)) y' := by
      rw [f_X12_enough_L21, H2, ya_b2s, nI_1]
    by_cases c : f i = f 30
    · left
      exact ⟨(nI i, z'), (nI i, y'), ⟨rfl, pz_7_t q1 G1, pz_r_t q2 H1⟩, c1.trans (if_pos (by rw [c])), c2.trans (if_pos (nI_le (by omega) (by omega)))⟩
    · right
      exact ⟨z', y', ⟨pz_7_t q1 G1, pz_r_t q2 H1⟩, c1.trans (if_neg (fun q => c ((nI_eq (by omega) (by omega)).mp q))), c2.trans (if_neg (nI_ge (by omega) (by omega)))⟩
theorem pz_enough (hI : pm_I d M) (hY : pz_Y d M) (v : Int32) : pz_op d M (f_X11_enough v) (f_X12_enough v) := by
  by_cases e1 : pn_ok v (M 0 4)
  · obtain ⟨s, hs, hs3, rfl⟩ := pn_ok_ex e1
    obtain ⟨r0, d1, -, A1, -, A3, -⟩ := pz_enough0 hI hI.2 hs
    obtain ⟨C1, C2, C3⟩ := pz_7_A hI hY A1
    obtain ⟨r, d1', d2, B1, B2, B3, B4⟩ := pz_enough0 hI C1.2 hs
    rw [A3] at B3
    obtain ⟨rfl, rfl⟩ := Prod.mk.inj (Option.some.inj B3)
    obtain ⟨E1, E2, E3⟩ := pz_r_A C1 C2 B2
    exact ⟨r0, d1, d2, M, A3, B4, E1, E2, pz_F_t C3 E3⟩
  · refine pz_no hI hY (r := -2) ?_ ?_
    · unfold f_X11_enough
      rw [pm_isSeller1 hI, Option.bind_some, if_neg e1, if_pos rfl]
    · unfold f_X12_enough
      rw [pm_isSeller2 hI.2, Option.bind_some, if_neg e1, if_pos rfl]
/-- the class's BEST at another price of a day -/
theorem sa_at11 (hI : pm_I d M) {s j x : Nat} (hs : s < M 0 4) (hj : j < M 0 1) (hx : x ≤ 99) {z : ya_D} (hz : pz_7 d z) (hL : sa_L z (pv_sc M s) (pv_sq M s) (pv_sp M s) (M 1 (M 5 s)) (M 0 1)) : ∃ z', sa_L z' (pv_sc M s) (pv_sq M s) (pv_sp M s) (M 1 (M 5 s)) (M 0 1) ∧ pz_7 d z' ∧ f_X11_bringAt (nI s) (nI j) (nI x) z = some (nI (pv_B1 M s j x), z') := by
  have hb := pm_b hI.2.2
  have hIz := pz_7_I hI hz
  have h3 := (pk_w hI.2.2).2.2.2.1 s hs
  have c31 := ((pk_c hIz.1).2.2.2.2.2.2.2.2.1 s hs).1
  obtain ⟨z', H1, H2, H3⟩ := sa_at hL hj hx (pm_wd_le hI.2.2 (x := M 5 s) (t := j) (y := x) (n := M 0 5) (Nat.le_refl _))
  refine ⟨z', H1, pz_7_t hz H2, ?_⟩
  unfold f_X11_bringAt f_X11_wantedFor
  rw [pn_rI (by omega) (by omega), pb_s, c31, pk_wanted hIz.1 hI.2.2 (by omega) (by omega) (by omega), pb_s, pb_s, H3, ya_b2s]
  rfl
theorem pz_made (hI : pm_I d M) (hY : pz_Y d M) (v w u : Int32) : pz_op d M (f_X11_made v w u) (f_X12_made v w u) := by
  by_cases e1 : pn_ok v (M 0 4)
  · by_cases e2 : pn_ok w (M 0 1)
    · by_cases e3 : pn_ok u 100
      · obtain ⟨s, hs, hs3, rfl⟩ := pn_ok_ex e1
        obtain ⟨j, hj, hj3, rfl⟩ := pn_ok_ex e2
        obtain ⟨x, hx, hx3, rfl⟩ := pn_ok_ex e3
        obtain ⟨d1, A1, A2, A3⟩ := sa_load hI hs
        obtain ⟨d2, B1, B2, B3⟩ := sa_at11 hI hs hj (show x ≤ 99 by omega) A2 A1
        obtain ⟨d3, F1, F2, F3⟩ := sa_bring7 B1
        obtain ⟨C1, C2, C3⟩ := pz_7_A hI hY (pz_7_t B2 F2)
        obtain ⟨d4, D1, D2⟩ := sb_made C1.2 hs hj (show x ≤ 99 by omega)
        obtain ⟨E1, E2, E3⟩ := pz_r_A C1 C2 D1
        refine ⟨nI (pv_B1 M s j x) - nI (pv_B0 M s), d3, d4, M, ?_, ?_, E1, E2, pz_F_t C3 E3⟩
        · unfold f_X11_made
          rw [pm_isSeller1 hI, Option.bind_some, if_pos e1, pj_0, if_neg pn_10, pm_isDay1 hI, Option.bind_some, if_pos e2, if_neg pn_10, pn_w99, Option.bind_some, if_pos e3, if_neg pn_10, A3, pb_s, B3, ya_b2s, F3, ya_b2s]
          rfl
        · unfold f_X12_made
          rw [pm_isSeller2 C1.2, Option.bind_some, if_pos e1, pj_0, if_neg pn_10, pm_isDay2 C1.2, Option.bind_some, if_pos e2, if_neg pn_10, pn_in99, Option.bind_some, if_pos e3, if_neg pn_10, D2, ya_b2s]
      · refine pz_no hI hY (r := -1000000) ?_ ?_
        · unfold f_X11_made
          rw [pm_isSeller1 hI, Option.bind_some, if_pos e1, pj_0, if_neg pn_10, pm_isDay1 hI, Option.bind_some, if_pos e2, if_neg pn_10, pn_w99, Option.bind_some, if_neg e3, if_pos rfl]
        · unfold f_X12_made
          rw [pm_isSeller2 hI.2, Option.bind_some, if_pos e1, pj_0, if_neg pn_10, pm_isDay2 hI.2, Option.bind_some, if_pos e2, if_neg pn_10, pn_in99, Option.bind_some, if_neg e3, if_pos rfl]
    · refine pz_no hI hY (r := -1000000) ?_ ?_
      · unfold f_X11_made
        rw [pm_isSeller1 hI, Option.bind_some, if_pos e1, pj_0, if_neg pn_10, pm_isDay1 hI, Option.bind_some, if_neg e2, if_pos rfl]
      · unfold f_X12_made
        rw [pm_isSeller2 hI.2, Option.bind_some, if_pos e1, pj_0, if_neg pn_10, pm_isDay2 hI.2, Option.bind_some, if_neg e2, if_pos rfl]
  · refine pz_no hI hY (r := -1000000) ?_ ?_
    · unfold f_X11_made
      rw [pm_isSeller1 hI, Option.bind_some, if_neg e1, pj_0, if_pos rfl]
    · unfold f_X12_made
      rw [pm_isSeller2 hI.2, Option.bind_some, if_neg e1, pj_0, if_pos rfl]
theorem pv_B1_le (hW : pm_W M) {s j x : Nat} : pv_B1 M s j x ≤ 63 * 20 * 99 := pv_B_le hW (fun t _ => by
  unfold pn_up
  split
  · exact pm_wd_le hW (Nat.le_refl _)
  · exact pv_sq_le hW t)
theorem pz_least0 (hI : pm_I d M) (hJ : pm_J e M) {s j g : Nat} (hs : s < M 0 4) (hj : j < M 0 1) (hg : g ≤ 9999) {z0 : ya_D} (hz0 : pz_7 d z0) (hL0 : sa_L z0 (pv_sc M s) (pv_sq M s) (pv_sp M s) (M 1 (M 5 s)) (M 0 1)) : ∃ (r : Int32) (d' e' : ya_D), pz_7 d d' ∧ pz_r e e' ∧ f_X11_least_L56 (nI s) (nI j) (nI (pv_B0 M s) + nI g) ya_F (nI 0) z0 = some (r, d') ∧ f_X12_least_L35 (nI s) (nI j) (nI g) ya_F (nI 0) e = some (r, e') := by
  have hb := pm_b hI.2.2
  have hB0 := pv_B_le hI.2.2 (s := s) (k := M 1 (M 5 s)) (q := pv_sq M s) (P := pv_sp M s) (fun t _ => pv_sq_le hI.2.2 t)
  rw [nI_add]
  have key := pq_lp2x (G := fun fu i (z : ya_D) => f_X11_least_L56 (nI s) (nI j) (nI (pv_B0 M s + g)) fu (nI i) z) (E := fun (z : Int32 × ya_D) => some z) (G' := fun fu i (y : ya_D) => f_X12_least_L35 (nI s) (nI j) (nI g) fu (nI i) y) (E' := fun (y : Int32 × ya_D) => some y) (n := 100)
    (I := fun i z y => pz_7 d z ∧ sa_L z (pv_sc M s) (pv_sq M s) (pv_sp M s) (M 1 (M 5 s)) (M 0 1) ∧ pz_r e y) (Q := fun z y => z.1 = y.1 ∧ pz_7 d z.2 ∧ pz_r e y.2)
    (fun fu z y hI2 => ?_) (fun fu i z y hi hI2 => ?_) ya_F 0 z0 e (by omega) (by unfold ya_F; omega) ⟨hz0, hL0, pz_r_r⟩
  · obtain ⟨z, y, ⟨q1, q2, q3⟩, k1, k2⟩ := key
    refine ⟨z.1, z.2, y.2, q2, q3, k1, ?_⟩
    rw [q1]; exact k2
  · obtain ⟨q1, q2, q3⟩ := hI2
    refine ⟨(-1, z), (-1, y), ⟨rfl, q1, q3⟩, ?_, ?_⟩
    · show f_X11_least_L56 _ _ _ (fu + 1) _ _ = _
      rw [f_X11_least_L56, if_pos (by decide)]
    · show f_X12_least_L35 _ _ _ (fu + 1) _ _ = _
      rw [f_X12_least_L35, if_pos (by decide)]
  · obtain ⟨q1, q2, q3⟩ := hI2
    have h99 : ¬ (99 : Int32) < nI i := nI_nlt (a := 99) (b := i) (by omega) (by omega)
    obtain ⟨z', G1, G2, G3⟩ := sa_at11 hI hs hj (show i ≤ 99 by omega) q1 q2
    obtain ⟨y', H1, H2⟩ := sb_made (pz_r_J hJ q3) hs hj (show i ≤ 99 by omega)
    have hB1 := pv_B1_le hI.2.2 (s := s) (j := j) (x := i)
    have c1 : f_X11_least_L56 (nI s) (nI j) (nI (pv_B0 M s + g)) (fu + 1) (nI i) z = if nI (pv_B1 M s j i) < nI (pv_B0 M s + g) then f_X11_least_L56 (nI s) (nI j) (nI (pv_B0 M s + g)) fu (nI (i + 1)) z' else some (nI i, z') := by
      rw [f_X11_least_L56, if_neg h99, G3, ya_b2s, nI_1]
    have c2 : f_X12_least_L35 (nI s) (nI j) (nI g) (fu + 1) (nI i) y = if nI (pv_B1 M s j i) - nI (pv_B0 M s) < nI g then f_X12_least_L35 (nI s) (nI j) (nI g) fu (nI (i + 1)) y' else some (nI i, y') := by
      rw [f_X12_least_L35, if_neg h99, H2, ya_b2s, nI_1]
    have hiff : nI (pv_B1 M s j i) - nI (pv_B0 M s) < nI g ↔ pv_B1 M s j i < pv_B0 M s + g := by
      exact pn_subl (by omega) (Nat.lt_of_le_of_lt hB0 (by omega)) (by omega)
    by_cases c : pv_B1 M s j i < pv_B0 M s + g
    · right
      exact ⟨z', y', ⟨G2, G1, pz_r_t q3 H1⟩, c1.trans (if_pos (nI_lt c (by have : pv_B0 M s ≤ 63 * 20 * 99 := hB0; omega))), c2.trans (if_pos (hiff.mpr c))⟩
    · left
      exact ⟨(nI i, z'), (nI i, y'), ⟨rfl, G2, pz_r_t q3 H1⟩, c1.trans (if_neg (nI_nlt (by omega) (by omega))), c2.trans (if_neg (fun q => c (hiff.mp q)))⟩
theorem pn_wg (v : Int32) : f_X11_within v 1 9999 = some (if 1 ≤ v.toInt ∧ v.toInt ≤ 9999 then 1 else 0) := by
  have e0 : (v < 1) = (v.toInt < 1) := propext (Int32.lt_iff_toInt_lt.trans (by rw [show (1 : Int32).toInt = 1 from by decide]))
  have e1 : ((9999 : Int32) < v) = (9999 < v.toInt) := propext (Int32.lt_iff_toInt_lt.trans (by rw [show (9999 : Int32).toInt = 9999 from by decide]))
  simp only [f_X11_within, ya_j0, e0, e1]
  by_cases h0 : v.toInt < 1
  · rw [if_pos h0, if_neg (by omega)]
  · rw [if_neg h0]
    by_cases h1 : 9999 < v.toInt
    · rw [if_pos h1, if_neg (by omega)]
    · rw [if_neg h1, if_pos (by omega)]
theorem pn_ing (v : Int32) : f_X12_in v.toInt64 1 9999 = some (if 1 ≤ v.toInt ∧ v.toInt ≤ 9999 then 1 else 0) := by
  have e0 : (v.toInt64 < 1) = (v.toInt < 1) := propext (Int64.lt_iff_toInt_lt.trans (by rw [pn_i64, show (1 : Int64).toInt = 1 from by decide]))
  have e1 : ((9999 : Int64) < v.toInt64) = (9999 < v.toInt) := propext (Int64.lt_iff_toInt_lt.trans (by rw [pn_i64, show (9999 : Int64).toInt = 9999 from by decide]))
  simp only [f_X12_in, ya_j0, e0, e1]
  by_cases h0 : v.toInt < 1
  · rw [if_pos h0, if_neg (by omega)]
  · rw [if_neg h0]
    by_cases h1 : 9999 < v.toInt
    · rw [if_pos h1, if_neg (by omega)]
    · rw [if_neg h1, if_pos (by omega)]
theorem pz_least (hI : pm_I d M) (hY : pz_Y d M) (v w u : Int32) : pz_op d M (f_X11_least v w u) (f_X12_least v w u) := by
  by_cases e1 : pn_ok v (M 0 4)
  · by_cases e2 : pn_ok w (M 0 1)
    · by_cases e3 : 1 ≤ u.toInt ∧ u.toInt ≤ 9999
      · obtain ⟨s, hs, hs3, rfl⟩ := pn_ok_ex e1
        obtain ⟨j, hj, hj3, rfl⟩ := pn_ok_ex e2
        obtain ⟨g, hg, hg3, rfl⟩ := pn_ok_ex (v := u) (n := 10000) ⟨by omega, by omega⟩
        obtain ⟨d1, A1, A2, A3⟩ := sa_load hI hs
        obtain ⟨d2, B1, B2, B3⟩ := sa_bring7 A1
        obtain ⟨r0, d3, -, F1, -, F3, -⟩ := pz_least0 hI hI.2 hs hj (show g ≤ 9999 by omega) (pz_7_t A2 B2) B1
        obtain ⟨C1, C2, C3⟩ := pz_7_A hI hY F1
        obtain ⟨r, d3', d4, G1, G2, G3, G4⟩ := pz_least0 hI C1.2 hs hj (show g ≤ 9999 by omega) (pz_7_t A2 B2) B1
        rw [F3] at G3
        obtain ⟨rfl, rfl⟩ := Prod.mk.inj (Option.some.inj G3)
        obtain ⟨E1, E2, E3⟩ := pz_r_A C1 C2 G2
        refine ⟨r0, d3, d4, M, ?_, ?_, E1, E2, pz_F_t C3 E3⟩
        · unfold f_X11_least
          rw [pm_isSeller1 hI, Option.bind_some, if_pos e1, pj_0, if_neg pn_10, pm_isDay1 hI, Option.bind_some, if_pos e2, if_neg pn_10, pn_wg, Option.bind_some, if_pos e3, if_neg pn_10, A3, pb_s, B3, ya_b2s, pl_0]
          exact F3
        · unfold f_X12_least
          rw [pm_isSeller2 C1.2, Option.bind_some, if_pos e1, pj_0, if_neg pn_10, pm_isDay2 C1.2, Option.bind_some, if_pos e2, if_neg pn_10, pn_ing, Option.bind_some, if_pos e3, if_neg pn_10, pl_0]
          exact G4
      · refine pz_no hI hY (r := -2) ?_ ?_
        · unfold f_X11_least
          rw [pm_isSeller1 hI, Option.bind_some, if_pos e1, pj_0, if_neg pn_10, pm_isDay1 hI, Option.bind_some, if_pos e2, if_neg pn_10, pn_wg, Option.bind_some, if_neg e3, if_pos rfl]
        · unfold f_X12_least
          rw [pm_isSeller2 hI.2, Option.bind_some, if_pos e1, pj_0, if_neg pn_10, pm_isDay2 hI.2, Option.bind_some, if_pos e2, if_neg pn_10, pn_ing, Option.bind_some, if_neg e3, if_pos rfl]
    · refine pz_no hI hY (r := -2) ?_ ?_
      · unfold f_X11_least
        rw [pm_isSeller1 hI, Option.bind_some, if_pos e1, pj_0, if_neg pn_10, pm_isDay1 hI, Option.bind_some, if_neg e2, if_pos rfl]
      · unfold f_X12_least
        rw [pm_isSeller2 hI.2, Option.bind_some, if_pos e1, pj_0, if_neg pn_10, pm_isDay2 hI.2, Option.bind_some, if_neg e2, if_pos rfl]
  · refine pz_no hI hY (r := -2) ?_ ?_
    · unfold f_X11_least
      rw [pm_isSeller1 hI, Option.bind_some, if_neg e1, pj_0, if_pos rfl]
    · unfold f_X12_least
      rw [pm_isSeller2 hI.2, Option.bind_some, if_neg e1, pj_0, if_pos rfl]
end
