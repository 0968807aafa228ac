/-! A seller alone: the reference's greedy -/
theorem nI_or (x y : Nat) : nI x ||| nI y = nI (x ||| y) := by
  apply Int32.toBitVec_inj.1
  show BitVec.ofNat 32 x ||| BitVec.ofNat 32 y = BitVec.ofNat 32 (x ||| y)
  apply BitVec.eq_of_getLsbD_eq
  intro i hi
  simp [hi]
theorem pv_sh1 : ∀ j, j < 20 → (1 : Int32) <<< (nI j &&& 31) = nI (2 ^ j) := by decide
theorem pv_sh2 : ∀ j, j < 20 → ((nI j &&& (31 : Int32)).toBitVec.smod 32).toNat = j := by decide
/-- a set of days as a number -/
def pv_mk (v : Int32) (Z : Nat → Bool) : Prop := ∃ m, m < 2 ^ 20 ∧ v = nI m ∧ ∀ t, t < 20 → m.testBit t = Z t
theorem pv_mk_0 : pv_mk (nI 0) (fun _ => false) := ⟨0, by omega, rfl, fun t _ => Nat.zero_testBit t⟩
theorem pv_mk_bit {v : Int32} {Z : Nat → Bool} (h : pv_mk v Z) {t : Nat} (ht : t < 20) : ((v >>> (nI t &&& 31)) &&& 1) = 0 ↔ Z t = false := by
  obtain ⟨m, h1, rfl, h3⟩ := h
  rw [pk_shrN (by omega) _ t (pv_sh2 t ht), show (1 : Int32) = nI 1 from rfl]
  have h4 := pk_andN (n := m / 2 ^ t) (by have := Nat.div_le_self m (2 ^ t); omega) (m := nI 1) 1 (by decide)
  rw [h4, ← h3 t ht, Nat.testBit_eq_decide_div_mod_eq]
  have h5 : m / 2 ^ t % 2 < 2 := Nat.mod_lt _ (by omega)
  rw [show (0 : Int32) = nI 0 from rfl, nI_eq (by omega) (by omega), Nat.pow_one]
  constructor
  · intro q; simp [q]
  · intro q
    have : ¬ m / 2 ^ t % 2 = 1 := by simpa using q
    omega
theorem pv_mk_or {v : Int32} {Z : Nat → Bool} (h : pv_mk v Z) {j : Nat} (hj : j < 20) : pv_mk (v ||| ((1 : Int32) <<< (nI j &&& 31))) (fun t => decide (t = j) || Z t) := by
  obtain ⟨m, h1, rfl, h3⟩ := h
  refine ⟨m ||| 2 ^ j, Nat.or_lt_two_pow h1 (Nat.pow_lt_pow_right (by omega) hj), ?_, fun t ht => ?_⟩
  · rw [pv_sh1 j hj, nI_or]
  · rw [Nat.testBit_or, h3 t ht, Nat.testBit_two_pow]
    by_cases c1 : j = t
    · simp [c1]
    · have c1' : ¬ t = j := fun h => c1 h.symm
      simp [c1, c1']
section
variable {d e : ya_D} {M : pm_M}
/-- the day that is next: the dearest of those not done -/
theorem sb_next (hJ : pm_J e M) {x : Nat} (hx : x < M 0 3) {v : Int32} {Z : Nat → Bool} (hZ : pv_mk v Z) (hsome : ∃ t, t < M 0 1 ∧ Z t = false) (z1 z2 z5 z6 : Int32) (K : Int32 → Option (Int32 × ya_D)) : ∃ j, j < M 0 1 ∧ Z j = false ∧ (∀ t, t < M 0 1 → Z t = false → M 2 (20 * x + t) ≤ M 2 (20 * x + j)) ∧ f_X12_bestBut_L60 z1 z2 (nI x) v z5 z6 e K ya_F (-1) (nI 0) = K (nI j) := by
  obtain ⟨⟨b0, b1, b2, b3, b4, b5⟩, w1, w2, w3, -, w5⟩ := pk_w hJ.2
  have key := pq_lp (G := fun fu i (w : Int32) => f_X12_bestBut_L60 z1 z2 (nI x) v z5 z6 e K fu w (nI i)) (E := K) (n := M 0 1)
    (I := fun i w => (w = -1 ∧ ∀ t, t < i → Z t = true) ∨ ∃ j, j < i ∧ w = nI j ∧ Z j = false ∧ ∀ t, t < i → Z t = false → M 2 (20 * x + t) ≤ M 2 (20 * x + j))
    (Q := fun w => ∃ j, j < M 0 1 ∧ w = nI j ∧ Z j = false ∧ ∀ t, t < M 0 1 → Z t = false → M 2 (20 * x + t) ≤ M 2 (20 * x + j))
    (fun fu w hI => ?_) (fun fu i w hi hI => Or.inr ?_) ya_F 0 (-1) (by omega) (by unfold ya_F; omega) (Or.inl ⟨rfl, fun t ht => by omega⟩)
  · obtain ⟨w, ⟨j, h1, h2, h3, h4⟩, h5⟩ := key
    exact ⟨j, h1, h3, h4, by rw [h5, h2]⟩
  · refine ⟨w, ?_, ?_⟩
    · rcases hI with ⟨h1, h2⟩ | h
      · obtain ⟨t, h3, h4⟩ := hsome
        rw [h2 t h3] at h4
        exact absurd h4 (by decide)
      · exact h
    · show f_X12_bestBut_L60 _ _ _ _ _ _ _ _ (fu + 1) _ _ = _
      rw [f_X12_bestBut_L60, pm_dy2 hJ, pb_s, if_pos (nI_le (Nat.le_refl _) (by omega))]
  · have hpi := (w2 x i hx hi).1
    by_cases c1 : Z i = false
    · have hb := (pv_mk_bit hZ (show i < 20 by omega)).mpr c1
      rcases hI with ⟨h1, h2⟩ | ⟨j, h1, h2, h3, h4⟩
      · refine ⟨nI i, Or.inr ⟨i, by omega, rfl, c1, fun t ht htz => ?_⟩, ?_⟩
        · by_cases c2 : t = i
          · rw [c2]; exact Nat.le_refl _
          · rw [h2 t (by omega)] at htz; exact absurd htz (by decide)
        · show f_X12_bestBut_L60 _ _ _ _ _ _ _ _ (fu + 1) _ _ = f_X12_bestBut_L60 _ _ _ _ _ _ _ _ fu _ _
          rw [f_X12_bestBut_L60, pm_dy2 hJ, pb_s, if_neg (nI_ge hi (by omega)), pj_1, if_pos hb, pj_0, if_pos h1, nI_1]
      · have hpj := (w2 x j hx (by omega)).1
        have hbody : f_X12_bestBut_L60 z1 z2 (nI x) v z5 z6 e K (fu + 1) w (nI i) = if nI (M 2 (20 * x + i)) ≤ nI (M 2 (20 * x + j)) then f_X12_bestBut_L60 z1 z2 (nI x) v z5 z6 e K fu w (nI (i + 1)) else f_X12_bestBut_L60 z1 z2 (nI x) v z5 z6 e K fu (nI i) (nI (i + 1)) := by
          rw [f_X12_bestBut_L60, pm_dy2 hJ, pb_s, if_neg (nI_ge hi (by omega)), pj_1, if_pos hb, pj_0, h2, if_neg (pn_m1 (by omega)), pm_p2 hJ hx hi, pb_s, pm_p2 hJ hx (show j < M 0 1 by omega), pb_s, nI_1]
        by_cases c2 : M 2 (20 * x + i) ≤ M 2 (20 * x + j)
        · refine ⟨w, Or.inr ⟨j, by omega, h2, h3, fun t ht htz => ?_⟩, hbody.trans (if_pos (nI_le c2 (by omega)))⟩
          by_cases c3 : t = i
          · rw [c3]; exact c2
          · exact h4 t (by omega) htz
        · refine ⟨nI i, Or.inr ⟨i, by omega, rfl, c1, fun t ht htz => ?_⟩, hbody.trans (if_neg (nI_ge (by omega) (by omega)))⟩
          by_cases c3 : t = i
          · rw [c3]; exact Nat.le_refl _
          · have := h4 t (by omega) htz
            omega
    · have hZt : Z i = true := by simpa using c1
      have hb : ¬ ((v >>> (nI i &&& 31)) &&& 1) = 0 := fun h => c1 ((pv_mk_bit hZ (show i < 20 by omega)).mp h)
      refine ⟨w, ?_, ?_⟩
      · rcases hI with ⟨h1, h2⟩ | ⟨j, h1, h2, h3, h4⟩
        · refine Or.inl ⟨h1, fun t ht => ?_⟩
          by_cases c3 : t = i
          · rw [c3]; exact hZt
          · exact h2 t (by omega)
        · refine Or.inr ⟨j, by omega, h2, h3, fun t ht htz => ?_⟩
          by_cases c3 : t = i
          · rw [c3, hZt] at htz; exact absurd htz (by decide)
          · exact h4 t (by omega) htz
      · show f_X12_bestBut_L60 _ _ _ _ _ _ _ _ (fu + 1) _ _ = f_X12_bestBut_L60 _ _ _ _ _ _ _ _ fu _ _
        rw [f_X12_bestBut_L60, pm_dy2 hJ, pb_s, if_neg (nI_ge hi (by omega)), pj_1, if_neg hb, nI_1]
/-- prices and what is asked, of a seller's thing -/
def pv_sp (M : pm_M) (s : Nat) : Nat → Nat := fun t => if t < M 0 1 then M 2 (20 * M 5 s + t) else 0
def pv_sq (M : pm_M) (s : Nat) : Nat → Nat := fun t => if t < M 0 1 then pm_wd M (M 5 s) t (M 2 (20 * M 5 s + t)) (M 0 5) else 0
theorem sb_best (hJ : pm_J e M) {s : Nat} (hs : s < M 0 4) (but : Int32) : ∃ e', (∀ a, a ≠ 102 → a ≠ 103 → e'.1 a = e.1 a) ∧ e'.2 = e.2 ∧ f_X12_bestBut (nI s) but e = some (nI (pv_V (pm_cm M s) (M 1 (M 5 s)) (fun t => if nI t = but then 0 else pv_sq M s t) (pv_sp M s) (M 0 1)), e') := by
  obtain ⟨⟨b0, b1, b2, b3, b4, b5⟩, w1, w2, w3, -, w5⟩ := pk_w hJ.2
  have h3 := w3 s hs
  have hsp : ∀ t, t < M 0 1 → pv_sp M s t = M 2 (20 * M 5 s + t) := fun t ht => if_pos ht
  have hsq : ∀ t, t < M 0 1 → pv_sq M s t = pm_wd M (M 5 s) t (M 2 (20 * M 5 s + t)) (M 0 5) := fun t ht => if_pos ht
  have hq63 : ∀ t, (if nI t = but then 0 else pv_sq M s t) ≤ 63 := by
    intro t
    split
    · omega
    · unfold pv_sq
      split
      · exact pm_wd_le hJ.2 (Nat.le_refl _)
      · omega
  have hP99 : ∀ t, t < M 0 1 → pv_sp M s t ≤ 99 := fun t ht => by rw [hsp t ht]; exact (w2 _ t h3.1 ht).1
  generalize hQ : (fun t => if nI t = but then 0 else pv_sq M s t) = q
  have hq63' : ∀ t, q t ≤ 63 := fun t => by rw [← hQ]; exact hq63 t
  unfold f_X12_bestBut
  rw [pk_thing hJ.1 hJ.2 hs, pb_s]
  have k1 := pq_lp (G := fun fu i (σ : ya_D) => f_X12_bestBut_L15 (nI s) but (nI (M 5 s)) 0 0 (fun d_40 => f_X12_bestBut_L43 (nI s) but (nI (M 5 s)) ya_F 0 0 0 d_40) fu (nI i) σ) (E := fun d_40 => f_X12_bestBut_L43 (nI s) but (nI (M 5 s)) ya_F 0 0 0 d_40) (n := M 0 1)
    (I := fun i σ => (∀ t, t < i → σ.1 102 t = nI 0) ∧ (∀ a, a ≠ 102 → σ.1 a = e.1 a) ∧ σ.2 = e.2) (Q := fun σ => (∀ t, t < M 0 1 → σ.1 102 t = nI 0) ∧ (∀ a, a ≠ 102 → σ.1 a = e.1 a) ∧ σ.2 = e.2)
    (fun fu σ hI => ?_) (fun fu i σ hi hI => Or.inr ?_) ya_F 0 e (by omega) (by unfold ya_F; omega) ⟨fun t ht => by omega, fun _ _ => rfl, rfl⟩
  · obtain ⟨e1, ⟨A1, A2, A3⟩, A4⟩ := k1
    rw [pl_0] at A4 ⊢
    rw [A4]
    have key := pq_lp (G := fun fu i (σ : Int32 × Nat × ya_D) => f_X12_bestBut_L43 (nI s) but (nI (M 5 s)) fu σ.1 (nI σ.2.1) (nI i) σ.2.2) (E := fun (σ : Nat × ya_D) => some (nI σ.1, σ.2)) (n := M 0 1)
      (I := fun i σ => ∃ (Z D : Nat → Bool) (f : Nat → Nat), pv_mk σ.1 Z ∧ pn_sum (fun t => if Z t then 1 else 0) (M 0 1) = i ∧ (∀ t, D t = true → Z t = true) ∧ (∀ t, t < M 0 1 → Z t = true → 0 < q t → 0 < pv_sp M s t → D t = true) ∧ pv_gr (pm_cm M s) (M 1 (M 5 s)) q (pv_sp M s) (M 0 1) D f ∧ σ.2.1 = pn_sum (fun t => f t * pv_sp M s t) (M 0 1) ∧ (∀ t, t < M 0 1 → σ.2.2.1 102 t = nI (f t)) ∧ (∀ a, a ≠ 102 → a ≠ 103 → σ.2.2.1 a = e.1 a) ∧ σ.2.2.2 = e.2)
      (Q := fun σ => σ.1 = pv_V (pm_cm M s) (M 1 (M 5 s)) q (pv_sp M s) (M 0 1) ∧ (∀ a, a ≠ 102 → a ≠ 103 → σ.2.1 a = e.1 a) ∧ σ.2.2 = e.2)
      (fun fu σ hI => ?_) (fun fu i σ hi hI => Or.inr ?_) ya_F 0 (nI 0, 0, e1) (by omega) (by unfold ya_F; omega) ⟨fun _ => false, fun _ => false, fun _ => 0, pv_mk_0, pn_sum_0 _ (fun _ _ => rfl), fun t h => h, fun t _ h => absurd h Bool.false_ne_true, pv_gr_0, (pn_sum_0 _ (fun t _ => Nat.zero_mul _)).symm, A1, fun a h1 _ => A2 a h1, A3⟩
    · obtain ⟨σ, ⟨q1, q2, q3⟩, z1⟩ := key
      refine ⟨σ.2, q2, q3, ?_⟩
      rw [← q1]; exact z1
    · obtain ⟨Z, D, f, g1, g2, g3, g4, g5, g6, g7, g8, g9⟩ := hI
      have hJσ : pm_J σ.2.2 M := ⟨pm_R_c hJ.1 (fun q => congrFun (g8 84 (by omega) (by omega)) q), hJ.2⟩
      have hall : ∀ t, t < M 0 1 → Z t = true := by
        intro t ht
        refine Classical.byContradiction (fun hn => ?_)
        have hf : Z t = false := by simpa using hn
        have h1 := pn_sum_up (f := fun t => if Z t then 1 else 0) (i := t) (v := 1) (M 0 1) ht
        have h2 := pn_sum_le (f := pn_up (fun t => if Z t then 1 else 0) t 1) (K := 1) (M 0 1) (fun x _ => by
          unfold pn_up
          split
          · omega
          · show (if Z x = true then 1 else 0) ≤ 1
            split <;> omega)
        rw [hf, g2] at h1
        simp at h1
        omega
      refine ⟨(σ.2.1, σ.2.2), ⟨?_, g8, g9⟩, ?_⟩
      · rw [g6]
        exact pv_gr_end g5 hP99 (fun t ht h1 h2 => g4 t ht (hall t ht) h1 h2)
      · show f_X12_bestBut_L43 _ _ _ (fu + 1) _ _ _ _ = _
        rw [f_X12_bestBut_L43, pm_dy2 hJσ, pb_s, if_pos (nI_le (Nat.le_refl _) (by omega))]
    · obtain ⟨v4, S, σ2⟩ := σ
      obtain ⟨Z, D, f, g1, g2, g3, g4, g5, g6, g7, g8, g9⟩ := hI
      simp only at g1 g6 g7 g8 g9
      subst g6
      have hJσ : pm_J σ2 M := ⟨pm_R_c hJ.1 (fun q => congrFun (g8 84 (by omega) (by omega)) q), hJ.2⟩
      have hsome : ∃ t, t < M 0 1 ∧ Z t = false := by
        refine Classical.byContradiction (fun hn => ?_)
        have : pn_sum (fun t => if Z t then 1 else 0) (M 0 1) = pn_sum (fun _ => 1) (M 0 1) := pn_sum_c _ (fun t ht => by
          have : Z t = true := by
            refine Classical.byContradiction (fun h => hn ⟨t, ht, by simpa using h⟩)
          rw [if_pos this])
        have h1 : ∀ m, pn_sum (fun _ => 1) m = m := fun m => by
          induction m with
          | zero => rfl
          | succ m ih => rw [pn_sum, ih]
        rw [this, h1] at g2
        omega
      obtain ⟨K, hK⟩ : ∃ K : Int32 → Option (Int32 × ya_D), K = fun (v7_114 : Int32) =>
      ya_j2 (fun (v5_176 : Int32) (d_176 : ya_D) =>
        f_X12_bestBut_L43 (nI s) but (nI (M 5 s)) fu (v4 ||| ((1 : Int32) <<< (v7_114 &&& 31))) v5_176 (nI i + 1) d_176) fun k176 =>
      if v7_114 = but then
        k176 (nI (pn_sum (fun t => f t * pv_sp M s t) (M 0 1))) σ2
      else
      (f_X12_priceOf (nI (M 5 s)) v7_114 σ2).bind fun x133 =>
      if x133 = 0 then
        k176 (nI (pn_sum (fun t => f t * pv_sp M s t) (M 0 1))) σ2
      else
      (f_X12_askedOf (nI (M 5 s)) v7_114 σ2).bind fun x150 =>
      (f_X12_fillsUp (nI s) v7_114 x150 σ2).bind fun d153 =>
      (ya_rI d153 102 20 v7_114).bind fun x164 =>
      (f_X12_priceOf (nI (M 5 s)) v7_114 d153).bind fun x169 =>
      k176 ((nI (pn_sum (fun t => f t * pv_sp M s t) (M 0 1))) + (x164 * x169)) d153 := ⟨_, rfl⟩
      obtain ⟨j, j1, j2, j3, j4⟩ := sb_next hJσ h3.1 g1 hsome (nI s) but (nI (pn_sum (fun t => f t * pv_sp M s t) (M 0 1))) (nI i) K
      have hmk := pv_mk_or g1 (show j < 20 by omega)
      have hcnt : pn_sum (fun t => if (decide (t = j) || Z t) then 1 else 0) (M 0 1) = i + 1 := by
        have h1 := pn_sum_up (f := fun t => if Z t then 1 else 0) (i := j) (v := 1) (M 0 1) j1
        rw [g2, j2] at h1
        have h2 : pn_sum (fun t => if (decide (t = j) || Z t) then 1 else 0) (M 0 1) = pn_sum (pn_up (fun t => if Z t then 1 else 0) j 1) (M 0 1) := pn_sum_c _ (fun t _ => by
          unfold pn_up
          by_cases c1 : t = j
          · simp [c1]
          · simp [c1])
        rw [h2]
        simpa using h1
      have hDj : D j = false := by
        refine Bool.eq_false_iff.mpr (fun h => ?_)
        have := g3 j h
        rw [j2] at this
        exact absurd this Bool.false_ne_true
      have hfj : f j = 0 := g5.1 j hDj
      have hpj := (w2 _ j h3.1 j1).1
      have hbody : f_X12_bestBut_L43 (nI s) but (nI (M 5 s)) (fu + 1) v4 (nI (pn_sum (fun t => f t * pv_sp M s t) (M 0 1))) (nI i) σ2 = K (nI j) := by
        rw [f_X12_bestBut_L43, pm_dy2 hJσ, pb_s, if_neg (nI_ge hi (by omega))]
        show f_X12_bestBut_L60 _ _ _ _ _ _ _ _ ya_F (-1) (nI 0) = _
        rw [← j4, hK]
      simp only [hK, pj_2] at hbody
      -- a day passed over
      have hskip : (q j = 0 ∨ pv_sp M s j = 0) → ∃ (Z D : Nat → Bool) (f' : Nat → Nat), pv_mk (v4 ||| ((1 : Int32) <<< (nI j &&& 31))) Z ∧ pn_sum (fun t => if Z t then 1 else 0) (M 0 1) = i + 1 ∧ (∀ t, D t = true → Z t = true) ∧ (∀ t, t < M 0 1 → Z t = true → 0 < q t → 0 < pv_sp M s t → D t = true) ∧ pv_gr (pm_cm M s) (M 1 (M 5 s)) q (pv_sp M s) (M 0 1) D f' ∧ pn_sum (fun t => f t * pv_sp M s t) (M 0 1) = pn_sum (fun t => f' t * pv_sp M s t) (M 0 1) ∧ f' = f := by
        intro h0
        refine ⟨_, D, f, hmk, hcnt, fun t h => ?_, fun t ht h1 h2 h3' => ?_, g5, rfl, rfl⟩
        · show (decide (t = j) || Z t) = true
          rw [g3 t h]; simp
        · by_cases c1 : t = j
          · subst c1; omega
          · exact g4 t ht (by simpa [c1] using h1) h2 h3'
      by_cases c1 : nI j = but
      · have hq0 : q j = 0 := by rw [← hQ]; exact if_pos c1
        obtain ⟨Z', D', f', k1, k2, k3, k4, k5, k6, k7⟩ := hskip (Or.inl hq0)
        refine ⟨(v4 ||| ((1 : Int32) <<< (nI j &&& 31)), pn_sum (fun t => f t * pv_sp M s t) (M 0 1), σ2), ⟨Z', D', f', k1, k2, k3, k4, k5, k6, by rw [k7]; exact g7, g8, g9⟩, ?_⟩
        refine hbody.trans ?_
        rw [if_pos c1, nI_1]
      · have hqj : q j = pm_wd M (M 5 s) j (M 2 (20 * M 5 s + j)) (M 0 5) := by rw [← hQ]; exact (if_neg c1).trans (hsq j j1)
        rw [if_neg c1, pm_p2 hJσ h3.1 j1, pb_s] at hbody
        by_cases c2 : M 2 (20 * M 5 s + j) = 0
        · obtain ⟨Z', D', f', k1, k2, k3, k4, k5, k6, k7⟩ := hskip (Or.inr (by rw [hsp j j1]; exact c2))
          refine ⟨(v4 ||| ((1 : Int32) <<< (nI j &&& 31)), pn_sum (fun t => f t * pv_sp M s t) (M 0 1), σ2), ⟨Z', D', f', k1, k2, k3, k4, k5, k6, by rw [k7]; exact g7, g8, g9⟩, ?_⟩
          refine hbody.trans ?_
          rw [if_pos (by rw [c2]; rfl), nI_1]
        · rw [if_neg (nI_ne0 (by omega) (by omega)), pk_asked hJσ.1 hJσ.2 h3.1 j1, pb_s, ← hqj] at hbody
          have hf0 : pn_up f j 0 = f := by rw [← hfj]; exact pn_up_id
          obtain ⟨e2, B1, B2, B3, B4, B5⟩ := sb_fills hJσ (j := j) (Q := q j) (f := f) hs j1 (hq63' j) (fun t => Nat.le_trans (g5.2.1 t) (hq63' t)) (by rw [hf0]; exact g5.2.2.1) (fun t ht _ => g7 t ht)
          have hJ2 : pm_J e2 M := ⟨pm_R_c hJσ.1 (fun q => congrFun (B3 84 (by omega) (by omega)) q), hJ.2⟩
          rw [B5, pb_s, pn_rI (by omega) (by omega), pb_s, B1, pm_p2 hJ2 h3.1 j1, pb_s, pn_mul, nI_add, nI_1] at hbody
          have hrow : ∀ t, t < M 0 1 → e2.1 102 t = nI (pn_up f j (q j - pv_M (pm_cm M s) (M 1 (M 5 s)) (pn_up f j (q j)) (M 0 1)) t) := by
            intro t ht
            by_cases c3 : t = j
            · rw [c3, pn_upe]; exact B1
            · rw [pn_upn c3, B2 t c3]; exact g7 t ht
          by_cases c3 : 0 < q j
          · have hPj : 0 < pv_sp M s j := by rw [hsp j j1]; omega
            obtain ⟨k1, k2⟩ := pv_gr_step g5 j1 hDj c3 hPj (fun t ht h1 h2 h3' => by
              have hZt : Z t = false := by
                refine Bool.eq_false_iff.mpr (fun h => ?_)
                have := g4 t ht h h2 h3'
                rw [h1] at this
                exact absurd this Bool.false_ne_true
              rw [hsp t ht, hsp j j1]
              exact j3 t ht hZt)
            refine ⟨(v4 ||| ((1 : Int32) <<< (nI j &&& 31)), pn_sum (fun t => pn_up f j (q j - pv_M (pm_cm M s) (M 1 (M 5 s)) (pn_up f j (q j)) (M 0 1)) t * pv_sp M s t) (M 0 1), e2), ⟨_, _, _, hmk, hcnt, fun t h => ?_, fun t ht h1 h2 h3' => ?_, k1, rfl, hrow, fun a h1 h2 => (B3 a h1 h2).trans (g8 a h1 h2), B4.trans g9⟩, ?_⟩
            · rw [Bool.or_eq_true] at h ⊢
              exact h.imp id (g3 t)
            · rw [Bool.or_eq_true] at h1 ⊢
              rcases h1 with h1 | h1
              · exact Or.inl h1
              · exact Or.inr (g4 t ht h1 h2 h3')
            · refine hbody.trans ?_
              rw [k2, hsp j j1]
          · have hq0 : q j = 0 := by omega
            obtain ⟨Z', D', f', k1, k2, k3, k4, k5, k6, k7⟩ := hskip (Or.inl hq0)
            refine ⟨(v4 ||| ((1 : Int32) <<< (nI j &&& 31)), pn_sum (fun t => f t * pv_sp M s t) (M 0 1), e2), ⟨Z', D', f', k1, k2, k3, k4, k5, k6, fun t ht => ?_, fun a h1 h2 => (B3 a h1 h2).trans (g8 a h1 h2), B4.trans g9⟩, ?_⟩
            · rw [k7]
              refine (hrow t ht).trans ?_
              rw [hq0, Nat.zero_sub, hf0]
            · refine hbody.trans ?_
              rw [hq0, Nat.zero_sub, Nat.zero_mul, Nat.add_zero]
  · have hJσ : pm_J σ M := ⟨pm_R_c hJ.1 (fun q => congrFun (hI.2.1 84 (by omega)) q), hJ.2⟩
    refine ⟨σ, hI, ?_⟩
    show f_X12_bestBut_L15 _ _ _ _ _ _ (fu + 1) _ _ = _
    rw [f_X12_bestBut_L15, pm_dy2 hJσ, pb_s, if_pos (nI_le (Nat.le_refl _) (by omega))]
  · obtain ⟨g1, g2, g3⟩ := hI
    have hJσ : pm_J σ M := ⟨pm_R_c hJ.1 (fun q => congrFun (g2 84 (by omega)) q), hJ.2⟩
    refine ⟨ya_sI σ 102 i (nI 0), ⟨fun t ht => ?_, fun a ha => (rw_n ha).trans (g2 a ha), g3⟩, ?_⟩
    · by_cases c1 : t = i
      · rw [c1, pn_e ⟨rfl, rfl⟩]
      · rw [pn_o (Or.inr c1)]; exact g1 t (by omega)
    · show f_X12_bestBut_L15 _ _ _ _ _ _ (fu + 1) _ _ = f_X12_bestBut_L15 _ _ _ _ _ _ fu _ _
      rw [f_X12_bestBut_L15, pm_dy2 hJσ, pb_s, if_neg (nI_ge hi (by omega)), pn_wI (by omega) (by omega), pb_s, nI_1]
      rfl
end
