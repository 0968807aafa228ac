/-! The year: a day begins -/
theorem pn_sum_ge {f : Nat → Nat} {c : Nat} : ∀ n, c < n → f c ≤ pn_sum f n
  | 0, h => by omega
  | n + 1, h => by
    rw [pn_sum]
    by_cases q : c = n
    · rw [q]; omega
    · have := pn_sum_ge (f := f) (c := c) n (by omega)
      omega
theorem pn_sum_cut {f : Nat → Nat} {m : Nat} : ∀ n, m ≤ n → pn_sum (fun c => if c < m then 0 else f c) n + pn_sum f m = pn_sum f n
  | 0, h => by rw [Nat.le_zero.mp h]; rfl
  | n + 1, h => by
    rw [pn_sum, pn_sum]
    by_cases q : m = n + 1
    · rw [q, pn_sum, if_pos (by omega), pn_sum_0 n (fun i hi => by rw [if_pos (by omega)])]; omega
    · have := pn_sum_cut (f := f) (m := m) n (by omega)
      rw [if_neg (by omega)]; omega
theorem pn_neg {x y : Nat} (h : x ≤ y) (hy : y < 2 ^ 29) : nI x - nI y - 1 < 0 := by
  rw [Int32.sub_sub, nI_1]
  exact pk_sneg (by omega) (by omega)
section
variable {d e : ya_D} {M M' : pm_M} {a : Nat}
theorem yr_refspoil (h : ys e M M') {s t : Nat} {l : Nat → Nat} (hs : s < M 0 4) (ht : t < M 0 1) (h90 : ∀ c, c < 20 → e.1 90 (20 * s + c) = nI (l c)) (k : ya_D → Option ya_D) :
    ∃ e', ((∀ c, c < 20 → e'.1 90 (20 * s + c) = nI (if c < t - M 1 (M 5 s) then 0 else l c)) ∧ (∀ q, q < 20 * s ∨ 20 * s + 20 ≤ q → e'.1 90 q = e.1 90 q) ∧ e'.1 97 s = e.1 97 s + nI (pn_sum l (t - M 1 (M 5 s))) ∧ (∀ q, q ≠ s → e'.1 97 q = e.1 97 q) ∧ e'.1 100 (20 * M 5 s + t) = e.1 100 (20 * M 5 s + t) + nI (pn_sum l (t - M 1 (M 5 s))) ∧ (∀ q, q ≠ 20 * M 5 s + t → e'.1 100 q = e.1 100 q) ∧ (∀ a', a' ≠ 90 → a' ≠ 97 → a' ≠ 100 → e'.1 a' = e.1 a') ∧ e'.2 = e.2) ∧ f_X12_spoilsIn_L14 (nI t) (nI s) k ya_F (nI 0) e = k e' := by
  obtain ⟨⟨b0, b1, b2, b3, b4, b5⟩, w1, w2, w3, -, w5⟩ := pk_w h.2.1
  have h3 := w3 s hs
  have hk := w1 _ h3.1
  generalize hx : M 5 s = x at h3 hk
  generalize hkp : M 1 x = kp at hk
  have key := pq_lp (G := fun fu i (σ : ya_D) => f_X12_spoilsIn_L14 (nI t) (nI s) k fu (nI i) σ) (E := k) (n := t - kp)
    (I := fun i σ => (∀ c, c < 20 → σ.1 90 (20 * s + c) = nI (if c < i then 0 else l c)) ∧ (∀ q, q < 20 * s ∨ 20 * s + 20 ≤ q → σ.1 90 q = e.1 90 q) ∧ σ.1 97 s = e.1 97 s + nI (pn_sum l i) ∧ (∀ q, q ≠ s → σ.1 97 q = e.1 97 q) ∧ σ.1 100 (20 * x + t) = e.1 100 (20 * x + t) + nI (pn_sum l i) ∧ (∀ q, q ≠ 20 * x + t → σ.1 100 q = e.1 100 q) ∧ (∀ a', a' ≠ 90 → a' ≠ 97 → a' ≠ 100 → σ.1 a' = e.1 a') ∧ σ.2 = e.2)
    (Q := fun σ => (∀ c, c < 20 → σ.1 90 (20 * s + c) = nI (if c < t - kp then 0 else l c)) ∧ (∀ q, q < 20 * s ∨ 20 * s + 20 ≤ q → σ.1 90 q = e.1 90 q) ∧ σ.1 97 s = e.1 97 s + nI (pn_sum l (t - kp)) ∧ (∀ q, q ≠ s → σ.1 97 q = e.1 97 q) ∧ σ.1 100 (20 * x + t) = e.1 100 (20 * x + t) + nI (pn_sum l (t - kp)) ∧ (∀ q, q ≠ 20 * x + t → σ.1 100 q = e.1 100 q) ∧ (∀ a', a' ≠ 90 → a' ≠ 97 → a' ≠ 100 → σ.1 a' = e.1 a') ∧ σ.2 = e.2)
    (fun fu σ hI => ?_) (fun fu i σ hi hI => ?_) ya_F 0 e (by omega) (by unfold ya_F; omega) ⟨fun c hc => by rw [if_neg (by omega)]; exact h90 c hc, fun _ _ => rfl, (nI_z _).symm, fun _ _ => rfl, (nI_z _).symm, fun _ _ => rfl, fun _ _ _ _ => rfl, rfl⟩
  · obtain ⟨σ, q, k1⟩ := key
    exact ⟨σ, q, k1⟩
  · refine ⟨σ, hI, ?_⟩
    have hq : ys σ M M' := ys_c h (hI.2.2.2.2.2.2.1 84 (by decide) (by decide) (by decide))
    show f_X12_spoilsIn_L14 _ _ _ (fu + 1) _ _ = _
    rw [f_X12_spoilsIn_L14]
    simp (disch := omega) only [pl_0, pl_1, pl_2, pl_3, pl_4, pl_5, pl_6, pl_7, pl_8, pl_9, pl_10, pl_11, pl_12, pl_20, pl_24, pl_30, pl_31, pl_60, pl_99, pl_100, pl_111, pl_211, pl_311, pl_326, pl_400, pl_426, pb_s, ya_b2s, pj_0, pj_1, pj_2, pj_3, pb_pI, pb_pL, pm_cell1, pm_cell2, nI_add, pn_mul, pn_sub, pn_rI, pn_wI, pn_eq, pn_le, pn_lt, pm_min, pn_o, pn_e, pn_sI2, Nat.zero_add, Nat.add_zero, ys_thing hq hs, hx, ys_keeps hq h3.1, hkp, if_pos (show t ≤ t - kp + kp by omega)]
  · right
    obtain ⟨e1, e2, e3, e4, e5, e6, e7, e8⟩ := hI
    have hq : ys σ M M' := ys_c h (e7 84 (by decide) (by decide) (by decide))
    have hq2 : ys (ya_sI σ 97 s (σ.1 97 s + nI (l i))) M M' := ys_c hq (rw_n (by decide))
    have r0 : σ.1 90 (20 * s + i) = nI (l i) := by rw [e1 i (by omega), if_neg (by omega)]
    have hsum : pn_sum l (i + 1) = pn_sum l i + l i := rfl
    refine ⟨ya_sI (ya_sI (ya_sI σ 97 s (σ.1 97 s + nI (l i))) 100 (20 * x + t) (σ.1 100 (20 * x + t) + nI (l i))) 90 (20 * s + i) (nI 0), ⟨fun c hc => ?_, fun q hq => ?_, ?_, fun q hq => ?_, ?_, fun q hq => ?_, fun a' g1 g2 g3 => ?_, e8⟩, ?_⟩
    · by_cases q : c = i
      · rw [q, if_pos (by omega)]
        exact pn_e ⟨rfl, rfl⟩
      · refine (pn_o (by omega)).trans ((pn_o (by omega)).trans ((pn_o (by omega)).trans ((e1 c hc).trans ?_)))
        by_cases q2 : c < i
        · rw [if_pos q2, if_pos (by omega)]
        · rw [if_neg q2, if_neg (by omega)]
    · exact (pn_o (by omega)).trans ((pn_o (by omega)).trans ((pn_o (by omega)).trans (e2 q hq)))
    · refine (pn_o (by omega)).trans ((pn_o (by omega)).trans ((pn_e ⟨rfl, rfl⟩).trans ?_))
      rw [e3, nI_a, hsum]
    · exact (pn_o (by omega)).trans ((pn_o (by omega)).trans ((pn_o (by omega)).trans (e4 q hq)))
    · refine (pn_o (by omega)).trans ((pn_e ⟨rfl, rfl⟩).trans ?_)
      rw [e5, nI_a, hsum]
    · exact (pn_o (by omega)).trans ((pn_o (by omega)).trans ((pn_o (by omega)).trans (e6 q hq)))
    · exact (rw_n g1).trans ((rw_n g3).trans ((rw_n g2).trans (e7 a' g1 g2 g3)))
    · show f_X12_spoilsIn_L14 _ _ _ (fu + 1) _ _ = f_X12_spoilsIn_L14 _ _ _ fu _ _
      rw [f_X12_spoilsIn_L14]
      simp (disch := omega) only [pl_0, pl_1, pl_2, pl_3, pl_4, pl_5, pl_6, pl_7, pl_8, pl_9, pl_10, pl_11, pl_12, pl_20, pl_24, pl_30, pl_31, pl_60, pl_99, pl_100, pl_111, pl_211, pl_311, pl_326, pl_400, pl_426, pb_s, ya_b2s, pj_0, pj_1, pj_2, pj_3, pb_pI, pb_pL, pm_cell1, pm_cell2, nI_add, pn_mul, pn_sub, pn_rI, pn_wI, pn_eq, pn_le, pn_lt, pm_min, pn_o, pn_e, pn_sI2, Nat.zero_add, Nat.add_zero, ys_thing hq hs, ys_thing hq2 hs, hx, ys_keeps hq h3.1, hkp, if_neg (show ¬ t ≤ i + kp by omega), r0]
/-- behind the beginning of day t: pieces of a seller -/
def pv_bg (M : pm_M) (s t : Nat) (l : Nat → Nat) : Nat → Nat := fun c => if c = t then pm_cm M s t else if c < t - M 1 (M 5 s) then 0 else l c
theorem pv_bg_sum {s t : Nat} {l : Nat → Nat} (ht : t < M 0 1) (hz : l t = 0) : pn_sum (pv_bg M s t l) (M 0 1) + pn_sum l (t - M 1 (M 5 s)) = pn_sum l (M 0 1) + pm_cm M s t := by
  have h1 := pn_sum_cut (f := l) (m := t - M 1 (M 5 s)) (M 0 1) (by omega)
  have h2 := pn_sum_up (f := fun c => if c < t - M 1 (M 5 s) then 0 else l c) (i := t) (v := pm_cm M s t) (M 0 1) ht
  have h3 : (if t < t - M 1 (M 5 s) then 0 else l t) = 0 := by rw [hz]; split <;> rfl
  have h4 : pv_bg M s t l = pn_up (fun c => if c < t - M 1 (M 5 s) then 0 else l c) t (pm_cm M s t) := rfl
  rw [h4]
  omega
/-- the class: a seller's day begins -/
theorem yr_cbegin (hC : pm_C d 24 M) (hW : pm_W M) {s t : Nat} {l : Nat → Nat} (ha : 42 ≤ a) (hs : s < M 0 4) (ht : t < M 0 1) (h7 : ∀ c, c < t → d.1 (a + 7) (20 * s + c) = nI (l c)) (h8 : d.1 (a + 8) s = nI (pn_sum l (M 0 1))) (hl : ∀ c, l c ≤ 198) (hz : l t = 0) (hk : ∀ c, c + M 1 (M 5 s) + 1 < t → l c = 0) :
    ∃ d', (∀ c, c ≤ t → d'.1 (a + 7) (20 * s + c) = nI (pv_bg M s t l c)) ∧ (∀ q, q < 20 * s ∨ 20 * s + 20 ≤ q → d'.1 (a + 7) q = d.1 (a + 7) q) ∧ d'.1 (a + 8) s = nI (pn_sum (pv_bg M s t l) (M 0 1)) ∧ (∀ q, q ≠ s → d'.1 (a + 8) q = d.1 (a + 8) q) ∧ d'.1 (a + 11) s = d.1 (a + 11) s + nI (pn_sum l (t - M 1 (M 5 s))) ∧ (∀ q, q ≠ s → d'.1 (a + 11) q = d.1 (a + 11) q) ∧ d'.1 (a + 4) (20 * M 5 s + t) = d.1 (a + 4) (20 * M 5 s + t) + nI (pn_sum l (t - M 1 (M 5 s))) ∧ (∀ q, q ≠ 20 * M 5 s + t → d'.1 (a + 4) q = d.1 (a + 4) q) ∧ (∀ a', a' ≠ a + 4 → a' ≠ a + 7 → a' ≠ a + 8 → a' ≠ a + 11 → d'.1 a' = d.1 a') ∧ d'.2 = d.2 ∧ f_X10_begin a 24 (nI s) (nI t) d = some d' := by
  obtain ⟨⟨b0, b1, b2, b3, b4, b5⟩, w1, w2, w3, -, w5⟩ := pk_w hW
  have h3 := w3 s hs
  have hkp := w1 _ h3.1
  have hcm := pm_cm_le hW hs ht
  have c31 := ((pk_c hC).2.2.2.2.2.2.2.2.1 s hs).1
  have c26 := (pk_c hC).2.2.2.2.2.2.1 _ h3.1
  have hsum := pv_bg_sum (M := M) (s := s) (l := l) ht hz
  have hbound := pn_sum_le (f := l) (K := 198) (M 0 1) (fun c _ => hl c)
  have hgl := pn_sum_m (f := l) (m := t - M 1 (M 5 s)) (M 0 1) (by omega)
  by_cases c : M 1 (M 5 s) + 1 ≤ t
  · have hgone : pn_sum l (t - M 1 (M 5 s)) = l (t - M 1 (M 5 s) - 1) := by
      rw [show t - M 1 (M 5 s) = (t - M 1 (M 5 s) - 1) + 1 by omega, pn_sum, pn_sum_0 _ (fun i hi => hk i (by omega))]
      simp only [Nat.add_sub_cancel, Nat.zero_add]
    have hC2 : ∀ (v1 v2 v3 : Int32) (i1 i2 i3 i4 : Nat) (v4 : Int32), pm_C (ya_sI (ya_sI (ya_sI (ya_sI d (a + 7) i1 v1) (a + 8) i2 v2) (a + 11) i3 v3) (a + 4) i4 v4) 24 M := fun v1 v2 v3 i1 i2 i3 i4 v4 => pm_C_c hC (fun a' k h1 h2 => by rw [rw_n (by omega), rw_n (by omega), rw_n (by omega), rw_n (by omega)])
    have r7 := h7 (t - M 1 (M 5 s) - 1) (by omega)
    refine ⟨ya_sI (ya_sI (ya_sI (ya_sI (ya_sI (ya_sI d (a + 7) (20 * s + (t - M 1 (M 5 s) - 1)) (nI 0)) (a + 8) s (nI (pn_sum l (M 0 1) - pn_sum l (t - M 1 (M 5 s))))) (a + 11) s (d.1 (a + 11) s + nI (pn_sum l (t - M 1 (M 5 s))))) (a + 4) (20 * M 5 s + t) (d.1 (a + 4) (20 * M 5 s + t) + nI (pn_sum l (t - M 1 (M 5 s))))) (a + 7) (20 * s + t) (nI (pm_cm M s t))) (a + 8) s (nI (pn_sum l (M 0 1) - pn_sum l (t - M 1 (M 5 s)) + pm_cm M s t)), fun c hc => ?_, fun q hq => ?_, ?_, fun q hq => ?_, ?_, fun q hq => ?_, ?_, fun q hq => ?_, fun a' g1 g2 g3 g4 => ?_, rfl, ?_⟩
    · unfold pv_bg
      by_cases q1 : c = t
      · rw [if_pos q1, q1]
        simp (disch := omega) only [pn_o, pn_e]
      · rw [if_neg q1]
        by_cases q2 : c = t - M 1 (M 5 s) - 1
        · rw [if_pos (by omega), q2]
          simp (disch := omega) only [pn_o, pn_e]
        · simp (disch := omega) only [pn_o]
          rw [h7 c (by omega)]
          by_cases q3 : c < t - M 1 (M 5 s)
          · rw [if_pos q3, hk c (by omega)]
          · rw [if_neg q3]
    · simp (disch := omega) only [pn_o]
    · rw [pn_e ⟨rfl, rfl⟩, show pn_sum l (M 0 1) - pn_sum l (t - M 1 (M 5 s)) + pm_cm M s t = pn_sum (pv_bg M s t l) (M 0 1) by omega]
    · simp (disch := omega) only [pn_o]
    · simp (disch := omega) only [pn_o, pn_e]
    · simp (disch := omega) only [pn_o]
    · simp (disch := omega) only [pn_o, pn_e]
    · simp (disch := omega) only [pn_o]
    · simp (disch := omega) only [rw_n]
    · unfold f_X10_begin
      have hcoming := pk_coming (hC2 (nI 0) (nI (pn_sum l (M 0 1) - pn_sum l (t - M 1 (M 5 s)))) (d.1 (a + 11) s + nI (pn_sum l (t - M 1 (M 5 s)))) (20 * s + (t - M 1 (M 5 s) - 1)) s s (20 * M 5 s + t) (d.1 (a + 4) (20 * M 5 s + t) + nI (pn_sum l (t - M 1 (M 5 s))))) hW hs ht
      simp (disch := omega) only [pl_0, pl_1, pl_2, pl_3, pl_4, pl_5, pl_6, pl_7, pl_8, pl_9, pl_10, pl_11, pl_12, pl_20, pl_24, pl_30, pl_31, pl_60, pl_99, pl_100, pl_111, pl_211, pl_311, pl_326, pl_400, pl_426, pb_s, ya_b2s, pj_0, pj_1, pj_2, pj_3, pb_pI, pb_pL, pm_cell1, pm_cell2, nI_add, pn_mul, pn_sub, pn_rI, pn_wI, pn_eq, pn_le, pn_lt, pm_min, pn_o, pn_e, pn_sI2, Nat.zero_add, Nat.add_zero, Nat.reduceAdd, c31, c26, Nat.not_lt_zero, if_false, r7, h8, ← hgone, hcoming]
  · have hgone : pn_sum l (t - M 1 (M 5 s)) = 0 := by rw [show t - M 1 (M 5 s) = 0 by omega]; rfl
    refine ⟨ya_sI (ya_sI d (a + 7) (20 * s + t) (nI (pm_cm M s t))) (a + 8) s (nI (pn_sum l (M 0 1) + pm_cm M s t)), fun c hc => ?_, fun q hq => ?_, ?_, fun q hq => ?_, ?_, fun q hq => ?_, ?_, fun q hq => ?_, fun a' g1 g2 g3 g4 => ?_, rfl, ?_⟩
    · unfold pv_bg
      by_cases q1 : c = t
      · rw [if_pos q1, q1]
        simp (disch := omega) only [pn_o, pn_e]
      · rw [if_neg q1, if_neg (by omega)]
        simp (disch := omega) only [pn_o]
        exact h7 c (by omega)
    · simp (disch := omega) only [pn_o]
    · rw [pn_e ⟨rfl, rfl⟩, show pn_sum l (M 0 1) + pm_cm M s t = pn_sum (pv_bg M s t l) (M 0 1) by omega]
    · simp (disch := omega) only [pn_o]
    · simp (disch := omega) only [pn_o, hgone, nI_z]
    · simp (disch := omega) only [pn_o]
    · simp (disch := omega) only [pn_o, hgone, nI_z]
    · simp (disch := omega) only [pn_o]
    · simp (disch := omega) only [rw_n]
    · unfold f_X10_begin
      have hcoming := pk_coming hC hW hs ht
      have hneg := pn_neg (x := t) (y := M 1 (M 5 s)) (by omega) (by omega)
      simp (disch := omega) only [pn_rI, pb_s, Nat.reduceAdd, c31, c26, if_pos hneg]
      simp (disch := omega) only [pl_0, pl_1, pl_2, pl_3, pl_4, pl_5, pl_6, pl_7, pl_8, pl_9, pl_10, pl_11, pl_12, pl_20, pl_24, pl_30, pl_31, pl_60, pl_99, pl_100, pl_111, pl_211, pl_311, pl_326, pl_400, pl_426, pb_s, ya_b2s, pj_0, pj_1, pj_2, pj_3, pb_pI, pb_pL, pm_cell1, pm_cell2, nI_add, pn_mul, pn_sub, pn_rI, pn_wI, pn_eq, pn_le, pn_lt, pm_min, pn_o, pn_e, pn_sI2, Nat.zero_add, Nat.add_zero, hcoming, h8]
end
