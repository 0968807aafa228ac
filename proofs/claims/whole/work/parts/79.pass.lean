/-! passing -/
theorem pj_4_ {A B C D γ : Type} (f : A → B → C → D → Option γ) (m : (A → B → C → D → Option γ) → Option γ) : ya_j4 f m = m f := by rw [ya_j4]
section
variable {d e : ya_D} {M M' : pm_M}
/-- what a piece brings more -/
def pv_gn (M : pm_M) (x w b s : Nat) : Int32 := if w = 0 then nI (M 3 (20 * x + s)) - nI (M 2 (20 * x + b)) else nI (M 2 (20 * x + s)) - nI (M 3 (20 * x + b))
theorem pz_gain1 (hI : pm_I d M) {x w b s : Nat} (hx : x < M 0 3) (hw : w < 2) (hb : b < M 0 1) (hs : s < M 0 1) : f_X11_passingGain (nI x) (nI w) (nI b) (nI s) d = some (pv_gn M x w b s) := by
  unfold f_X11_passingGain pv_gn
  by_cases c : w = 0
  · rw [if_pos c, if_pos (by rw [c]; rfl), pm_cell1, pb_s, pm_o1 hI hx hs, pb_s, pm_cell1, pb_s, pm_p1 hI hx hb, pb_s]
  · rw [if_neg c, if_neg (nI_ne0 (by omega) (by omega)), pm_cell1, pb_s, pm_p1 hI hx hs, pb_s, pm_cell1, pb_s, pm_o1 hI hx hb, pb_s]
/-- what was found, in both forms -/
def pv_fd (f v4 v5 v6 : Int32) : Prop := (f = -1 ∧ v4 = -1 ∧ v5 = -1 ∧ v6 = -1) ∨ ∃ w b s, w < 2 ∧ b < 20 ∧ s < 20 ∧ f = nI ((w * 20 + b) * 20 + s) ∧ v4 = nI b ∧ v5 = nI s ∧ v6 = nI w
theorem pz_pass3 (hI : pm_I d M) {x w b : Nat} (hx : x < M 0 3) (hw : w < 2) (hb : b < M 0 1) (v2 : Int32) (k : Int32 → Int32 → Option Int32) (k' : Int32 → Int32 → Int32 → Int32 → Option Int32) (m f v4 v5 v6 : Int32) (hf : pv_fd f v4 v5 v6) :
    ∃ m' f' v4' v5' v6', pv_fd f' v4' v5' v6' ∧ f_X11_passing_L82 (nI x) v2 (nI w) (nI b) (nI (min (M 0 1 - 1) (b + M 1 x))) d k ya_F m f (nI b) = k m' f' ∧ f_X12_passing_L62 (nI x) v2 (nI w) (nI b) d k' ya_F m v4 v5 v6 (nI b) = k' m' v4' v5' v6' := by
  have hb5 := pm_b hI.2.2
  have hkp := (pk_w hI.2.2).2.1 x hx
  have key := pq_lp2 (G := fun fu i (s : Int32 × Int32) => f_X11_passing_L82 (nI x) v2 (nI w) (nI b) (nI (min (M 0 1 - 1) (b + M 1 x))) d k fu s.1 s.2 (nI i)) (E := fun (s : Int32 × Int32) => k s.1 s.2) (G' := fun fu i (s : Int32 × Int32 × Int32 × Int32) => f_X12_passing_L62 (nI x) v2 (nI w) (nI b) d k' fu s.1 s.2.1 s.2.2.1 s.2.2.2 (nI i)) (E' := fun (s : Int32 × Int32 × Int32 × Int32) => k' s.1 s.2.1 s.2.2.1 s.2.2.2) (n := min (M 0 1) (b + M 1 x + 1))
    (I := fun i s s' => b ≤ i ∧ s.1 = s'.1 ∧ pv_fd s.2 s'.2.1 s'.2.2.1 s'.2.2.2) (Q := fun s s' => s.1 = s'.1 ∧ pv_fd s.2 s'.2.1 s'.2.2.1 s'.2.2.2)
    (fun fu s s' hI2 => ?_) (fun fu i s s' hi hI2 => ?_) ya_F b (m, f) (m, v4, v5, v6) (by omega) (by unfold ya_F; omega) ⟨Nat.le_refl _, rfl, hf⟩
  · obtain ⟨s, s', ⟨q1, q2⟩, k1, k2⟩ := key
    refine ⟨s.1, s.2, s'.2.1, s'.2.2.1, s'.2.2.2, q2, k1, ?_⟩
    rw [q1]; exact k2
  · obtain ⟨q0, q1, q2⟩ := hI2
    refine ⟨s, s', ⟨q1, q2⟩, ?_, ?_⟩
    · show f_X11_passing_L82 _ _ _ _ _ _ _ (fu + 1) _ _ _ = _
      rw [f_X11_passing_L82, if_pos (nI_lt (by omega) (by omega))]
    · show f_X12_passing_L62 _ _ _ _ _ _ (fu + 1) _ _ _ _ _ = _
      rw [f_X12_passing_L62, pm_dy2 hI.2, pb_s]
      by_cases c : M 0 1 ≤ min (M 0 1) (b + M 1 x + 1)
      · rw [if_pos (nI_le c (by omega))]
      · rw [if_neg (nI_ge (by omega) (by omega)), pk_keeps hI.2.1 hI.2.2 hx, pb_s, nI_add, if_pos (nI_lt (by omega) (by omega))]
  · obtain ⟨q0, q1, q2⟩ := hI2
    obtain ⟨m1, f1⟩ := s
    obtain ⟨m2, g4, g5, g6⟩ := s'
    simp only at q1 q2
    subst q1
    have hi1 : i < M 0 1 := by omega
    have hr := (pk_r hI.2.1).2.2.2.2.2.2.2.1
    have c1 : f_X11_passing_L82 (nI x) v2 (nI w) (nI b) (nI (min (M 0 1 - 1) (b + M 1 x))) d k (fu + 1) m1 f1 (nI i) = if pv_gn M x w b i ≤ m1 then f_X11_passing_L82 (nI x) v2 (nI w) (nI b) (nI (min (M 0 1 - 1) (b + M 1 x))) d k fu m1 f1 (nI (i + 1)) else f_X11_passing_L82 (nI x) v2 (nI w) (nI b) (nI (min (M 0 1 - 1) (b + M 1 x))) d k fu (pv_gn M x w b i) (nI ((w * 20 + b) * 20 + i)) (nI (i + 1)) := by
      rw [f_X11_passing_L82, if_neg (nI_nlt (by omega) (by omega)), pz_gain1 hI hx hw hb hi1, pb_s, pj_2, pl_20, pn_mul, nI_add, pn_mul, nI_add, nI_1]
    have c2 : f_X12_passing_L62 (nI x) v2 (nI w) (nI b) d k' (fu + 1) m1 g4 g5 g6 (nI i) = if m1 < pv_gn M x w b i then f_X12_passing_L62 (nI x) v2 (nI w) (nI b) d k' fu (pv_gn M x w b i) (nI b) (nI i) (nI w) (nI (i + 1)) else f_X12_passing_L62 (nI x) v2 (nI w) (nI b) d k' fu m1 g4 g5 g6 (nI (i + 1)) := by
      rw [f_X12_passing_L62, pm_dy2 hI.2, pb_s, if_neg (nI_ge hi1 (by omega)), pk_keeps hI.2.1 hI.2.2 hx, pb_s, nI_add, if_neg (nI_nlt (by omega) (by omega)), pm_cell2, pm_cell2]
      unfold pv_gn
      simp only [pj_1, pj_4_, pb_s]
      by_cases c : w = 0
      · simp (disch := omega) only [c, show (nI 0 = (0 : Int32)) = True from eq_true rfl, if_true, pl_11, pl_111, nI_add, pn_rI, pb_s, (hr x b hx hb).1, (hr x i hx hi1).2.1, nI_1]
      · simp (disch := omega) only [if_neg c, if_neg (show ¬ nI w = (0 : Int32) from nI_ne0 (by omega) (by omega)), pl_11, pl_111, nI_add, pn_rI, pb_s, (hr x b hx hb).2.1, (hr x i hx hi1).1, nI_1]
    by_cases c : pv_gn M x w b i ≤ m1
    · refine ⟨(m1, f1), (m1, g4, g5, g6), ⟨by omega, rfl, q2⟩, ?_, ?_⟩
      · exact c1.trans (if_pos c)
      · exact c2.trans (if_neg (fun q => pn_nle.mpr q c))
    · refine ⟨(pv_gn M x w b i, nI ((w * 20 + b) * 20 + i)), (pv_gn M x w b i, nI b, nI i, nI w), ⟨by omega, rfl, Or.inr ⟨w, b, i, hw, by omega, by omega, rfl, rfl, rfl, rfl⟩⟩, ?_, ?_⟩
      · exact c1.trans (if_neg c)
      · exact c2.trans (if_pos (pn_nle.mp c))
theorem pz_pass2 (hI : pm_I d M) {x w : Nat} (hx : x < M 0 3) (hw : w < 2) (v2 : Int32) (k : Int32 → Int32 → Option Int32) (k' : Int32 → Int32 → Int32 → Int32 → Option Int32) (m f v4 v5 v6 : Int32) (hf : pv_fd f v4 v5 v6) :
    ∃ m' f' v4' v5' v6', pv_fd f' v4' v5' v6' ∧ f_X11_passing_L37 (nI x) v2 (nI w) d k ya_F m f (nI 0) = k m' f' ∧ f_X12_passing_L47 (nI x) v2 (nI w) d k' ya_F m v4 v5 v6 (nI 0) = k' m' v4' v5' v6' := by
  have hb5 := pm_b hI.2.2
  have hkp := (pk_w hI.2.2).2.1 x hx
  have hc := pk_c hI.1
  have key := pq_lp2 (G := fun fu i (s : Int32 × Int32) => f_X11_passing_L37 (nI x) v2 (nI w) d k fu s.1 s.2 (nI i)) (E := fun (s : Int32 × Int32) => k s.1 s.2) (G' := fun fu i (s : Int32 × Int32 × Int32 × Int32) => f_X12_passing_L47 (nI x) v2 (nI w) d k' fu s.1 s.2.1 s.2.2.1 s.2.2.2 (nI i)) (E' := fun (s : Int32 × Int32 × Int32 × Int32) => k' s.1 s.2.1 s.2.2.1 s.2.2.2) (n := M 0 1)
    (I := fun i s s' => s.1 = s'.1 ∧ pv_fd s.2 s'.2.1 s'.2.2.1 s'.2.2.2) (Q := fun s s' => s.1 = s'.1 ∧ pv_fd s.2 s'.2.1 s'.2.2.1 s'.2.2.2)
    (fun fu s s' hI2 => ?_) (fun fu i s s' hi hI2 => ?_) ya_F 0 (m, f) (m, v4, v5, v6) (by omega) (by unfold ya_F; omega) ⟨rfl, hf⟩
  · obtain ⟨s, s', ⟨q1, q2⟩, k1, k2⟩ := key
    refine ⟨s.1, s.2, s'.2.1, s'.2.2.1, s'.2.2.2, q2, k1, ?_⟩
    rw [q1]; exact k2
  · refine ⟨s, s', hI2, ?_, ?_⟩
    · show f_X11_passing_L37 _ _ _ _ _ (fu + 1) _ _ _ = _
      rw [f_X11_passing_L37, hc.2.1, if_pos (nI_le (Nat.le_refl _) (by omega))]
    · show f_X12_passing_L47 _ _ _ _ _ (fu + 1) _ _ _ _ _ = _
      rw [f_X12_passing_L47, pm_dy2 hI.2, pb_s, if_pos (nI_le (Nat.le_refl _) (by omega))]
  · obtain ⟨q1, q2⟩ := hI2
    obtain ⟨m', f', a4, a5, a6, g1, g2, g3⟩ := pz_pass3 hI hx hw hi v2 (fun v3_133 v4_133 => f_X11_passing_L37 (nI x) v2 (nI w) d k fu v3_133 v4_133 (nI i + 1)) (fun v3_171 v4_171 v5_171 v6_171 => f_X12_passing_L47 (nI x) v2 (nI w) d k' fu v3_171 v4_171 v5_171 v6_171 (nI i + 1)) s.1 s.2 s'.2.1 s'.2.2.1 s'.2.2.2 q2
    refine ⟨(m', f'), (m', a4, a5, a6), ⟨rfl, g1⟩, ?_, ?_⟩
    · show f_X11_passing_L37 _ _ _ _ _ (fu + 1) _ _ _ = _
      rw [f_X11_passing_L37, hc.2.1, if_neg (nI_ge hi (by omega)), pn_rI (by omega) (by omega), pb_s, hc.2.2.2.2.2.2.1 x hx, nI_add, show nI (M 0 1) - 1 = nI (M 0 1 - 1) by rw [pl_1, pn_sub (by omega)], pm_min (by omega) (by omega), g2, nI_1]
    · show f_X12_passing_L47 _ _ _ _ _ (fu + 1) _ _ _ _ _ = _
      rw [f_X12_passing_L47, pm_dy2 hI.2, pb_s, if_neg (nI_ge hi (by omega)), ← q1, g3, nI_1]
theorem pz_pass1 (hI : pm_I d M) {x : Nat} (hx : x < M 0 3) (v2 : Int32) (k : Int32 → Int32 → Option Int32) (k' : Int32 → Int32 → Int32 → Int32 → Option Int32) :
    ∃ m' f' v4' v5' v6', pv_fd f' v4' v5' v6' ∧ f_X11_passing_L28 (nI x) v2 d k ya_F (nI 0) (-1) (nI 0) = k m' f' ∧ f_X12_passing_L38 (nI x) v2 d k' ya_F (nI 0) (-1) (-1) (-1) (nI 0) = k' m' v4' v5' v6' := by
  have key := pq_lp2 (G := fun fu i (s : Int32 × Int32) => f_X11_passing_L28 (nI x) v2 d k fu s.1 s.2 (nI i)) (E := fun (s : Int32 × Int32) => k s.1 s.2) (G' := fun fu i (s : Int32 × Int32 × Int32 × Int32) => f_X12_passing_L38 (nI x) v2 d k' fu s.1 s.2.1 s.2.2.1 s.2.2.2 (nI i)) (E' := fun (s : Int32 × Int32 × Int32 × Int32) => k' s.1 s.2.1 s.2.2.1 s.2.2.2) (n := 2)
    (I := fun i s s' => s.1 = s'.1 ∧ pv_fd s.2 s'.2.1 s'.2.2.1 s'.2.2.2) (Q := fun s s' => s.1 = s'.1 ∧ pv_fd s.2 s'.2.1 s'.2.2.1 s'.2.2.2)
    (fun fu s s' hI2 => ?_) (fun fu i s s' hi hI2 => ?_) ya_F 0 (nI 0, -1) (nI 0, -1, -1, -1) (by omega) (by unfold ya_F; omega) ⟨rfl, Or.inl ⟨rfl, rfl, rfl, rfl⟩⟩
  · obtain ⟨s, s', ⟨q1, q2⟩, k1, k2⟩ := key
    refine ⟨s.1, s.2, s'.2.1, s'.2.2.1, s'.2.2.2, q2, k1, ?_⟩
    rw [q1]; exact k2
  · refine ⟨s, s', hI2, ?_, ?_⟩
    · show f_X11_passing_L28 _ _ _ _ (fu + 1) _ _ _ = _
      rw [f_X11_passing_L28, if_pos (by decide)]
    · show f_X12_passing_L38 _ _ _ _ (fu + 1) _ _ _ _ _ = _
      rw [f_X12_passing_L38, if_pos (by decide)]
  · obtain ⟨q1, q2⟩ := hI2
    obtain ⟨m', f', a4, a5, a6, g1, g2, g3⟩ := pz_pass2 hI hx hi v2 (fun v3_139 v4_139 => f_X11_passing_L28 (nI x) v2 d k fu v3_139 v4_139 (nI i + 1)) (fun v3_177 v4_177 v5_177 v6_177 => f_X12_passing_L38 (nI x) v2 d k' fu v3_177 v4_177 v5_177 v6_177 (nI i + 1)) s.1 s.2 s'.2.1 s'.2.2.1 s'.2.2.2 q2
    rw [← pl_0] at g2 g3
    refine ⟨(m', f'), (m', a4, a5, a6), ⟨rfl, g1⟩, ?_, ?_⟩
    · show f_X11_passing_L28 _ _ _ _ (fu + 1) _ _ _ = _
      rw [f_X11_passing_L28, if_neg (show ¬ (1 : Int32) < nI i from nI_nlt (a := 1) (b := i) (by omega) (by omega)), g2, nI_1]
    · show f_X12_passing_L38 _ _ _ _ (fu + 1) _ _ _ _ _ = _
      rw [f_X12_passing_L38, if_neg (show ¬ (2 : Int32) ≤ nI i from nI_ge (b := 2) hi (by omega)), ← q1, g3, nI_1]
theorem pz_passing (hI : pm_I d M) (v w : Int32) : ∃ r, f_X11_passing v w d = some r ∧ f_X12_passing v w d = some r := by
  have hb := pm_b hI.2.2
  by_cases e1 : pn_ok v (M 0 3)
  · by_cases e2 : pn_ok w 4
    · obtain ⟨x, hx, hx3, rfl⟩ := pn_ok_ex e1
      obtain ⟨m, f, v4, v5, v6, g1, g2, g3⟩ := pz_pass1 hI hx w (fun (v3_145 : Int32) (v4_145 : Int32) =>
    ya_j0 (
      if w = 0 then
        some v3_145
      else
      some (-1)) fun k155 =>
    if w = 0 then
      k155
    else
    if v4_145 = (-1) then
      k155
    else
    (f_X11_passingPart v4_145 w).bind fun x168 =>
    some x168) (fun (v3_183 : Int32) (v4_183 : Int32) (v5_183 : Int32) (v6_183 : Int32) =>
    if w = 0 then
      some v3_183
    else
    if w = 1 then
      some v4_183
    else
    if w = 2 then
      some v5_183
    else
    some v6_183)
      have f1 : f_X11_passing (nI x) w d = ya_j0 (if w = 0 then some m else some (-1)) fun k155 => if w = 0 then k155 else if f = (-1) then k155 else (f_X11_passingPart f w).bind fun x168 => some x168 := by
        unfold f_X11_passing
        rw [pm_isThing1 hI, Option.bind_some, pj_0, if_pos e1, if_neg pn_10, pn_wN _ 4 3 (by decide), Option.bind_some, if_pos e2, if_neg pn_10, show (0 : Int32) = nI 0 from rfl]
        exact g2
      have f2 : f_X12_passing (nI x) w d = if w = 0 then some m else if w = 1 then some v4 else if w = 2 then some v5 else some v6 := by
        unfold f_X12_passing
        rw [pm_isThing2 hI.2, Option.bind_some, pj_0, if_pos e1, if_neg pn_10, pn_inN _ 4 3 (by decide), Option.bind_some, if_pos e2, if_neg pn_10, show (0 : Int32) = nI 0 from rfl]
        exact g3
      rw [f1, f2, pj_0]
      obtain ⟨j, hj, rfl⟩ := pn_ok_e e2
      rcases g1 with ⟨rfl, rfl, rfl, rfl⟩ | ⟨w, b, s, hw, hb2, hs2, rfl, rfl, rfl, rfl⟩
      · rcases (show j = 0 ∨ j = 1 ∨ j = 2 ∨ j = 3 by omega) with rfl | rfl | rfl | rfl
        all_goals exact ⟨_, rfl, rfl⟩
      · have hm1 : ¬ nI ((w * 20 + b) * 20 + s) = -1 := pn_m1 (by omega)
        rcases (show j = 0 ∨ j = 1 ∨ j = 2 ∨ j = 3 by omega) with rfl | rfl | rfl | rfl
        · exact ⟨_, rfl, rfl⟩
        · refine ⟨_, ?_, rfl⟩
          rw [if_neg (by decide), if_neg hm1]
          unfold f_X11_passingPart
          rw [if_pos (by decide), pl_20, pk_div (by omega) (by omega) (by omega), pk_rem (by omega) (by omega) (by omega), pb_s, show ((w * 20 + b) * 20 + s) / 20 % 20 = b by omega]
        · refine ⟨_, ?_, rfl⟩
          rw [if_neg (by decide), if_neg hm1]
          unfold f_X11_passingPart
          rw [if_neg (by decide), if_pos (by decide), pl_20, pk_rem (by omega) (by omega) (by omega), pb_s, show ((w * 20 + b) * 20 + s) % 20 = s by omega]
        · refine ⟨_, ?_, rfl⟩
          rw [if_neg (by decide), if_neg hm1]
          unfold f_X11_passingPart
          rw [if_neg (by decide), if_neg (by decide), pl_400, pk_div (by omega) (by omega) (by omega), pb_s, show ((w * 20 + b) * 20 + s) / 400 = w by omega]
    · refine ⟨-2, ?_, ?_⟩
      · unfold f_X11_passing
        rw [pm_isThing1 hI, Option.bind_some, pj_0, if_pos e1, if_neg pn_10, pn_wN _ 4 3 (by decide), Option.bind_some, if_neg e2, if_pos rfl]
      · unfold f_X12_passing
        rw [pm_isThing2 hI.2, Option.bind_some, pj_0, if_pos e1, if_neg pn_10, pn_inN _ 4 3 (by decide), Option.bind_some, if_neg e2, if_pos rfl]
  · refine ⟨-2, ?_, ?_⟩
    · unfold f_X11_passing
      rw [pm_isThing1 hI, Option.bind_some, pj_0, if_neg e1, if_pos rfl]
    · unfold f_X12_passing
      rw [pm_isThing2 hI.2, Option.bind_some, pj_0, if_neg e1, if_pos rfl]
end
