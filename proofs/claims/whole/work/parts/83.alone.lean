/-! A seller alone: the class -/
section
variable {d e : ya_D} {c q P : Nat → Nat} {k n : Nat}
theorem pm_max0 {t k : Nat} (ht : t < 2 ^ 29) (hk : k < 2 ^ 29) : ya_max 0 (nI t - nI k) = nI (t - k) := by
  by_cases h : k ≤ t
  · rw [pn_sub h, show (0 : Int32) = nI 0 from rfl, pm_max (by omega) (by omega), Nat.max_eq_right (Nat.zero_le _)]
  · unfold ya_max
    have h1 : nI t - nI k < 0 := pk_sneg (by omega) (by omega)
    have h2 : ¬ (0 : Int32) < nI t - nI k := by
      rw [Int32.lt_iff_toInt_lt] at h1 ⊢
      omega
    rw [if_neg h2, show t - k = 0 by omega]; rfl
/-- the oldest first, of what still is: one day -/
theorem sa_in {t s G : Nat} (z : Int32) (ht : t < n) (hn : n ≤ 20) (hs : s < 2 ^ 20) (hc : ∀ i, c i ≤ 198) (hG : G ≤ pn_sum c t) (h77 : ∀ i, t - k ≤ i → i < n → d.1 77 i = nI (pv_tk c G i)) (K : Int32 → ya_D → Option (Int32 × ya_D)) :
    ∃ d', ((∀ i, t - k ≤ i → i < n → d'.1 77 i = nI (pv_tk c (min (pn_sum c (t + 1)) (max G (pn_sum c (t - k)) + s)) i)) ∧ (∀ a, a ≠ 77 → d'.1 a = d.1 a) ∧ d'.2 = d.2) ∧ f_X5_missing_L46 z (nI t) K ya_F (nI s) (nI (t - k)) d = K (nI (max G (pn_sum c (t - k)) + s - pn_sum c (t + 1))) d' := by
  generalize hB : pn_sum c (t - k) = B
  have hmono : ∀ i j, i ≤ j → pn_sum c i ≤ pn_sum c j := fun i j h => pn_sum_m j h
  have hAb : pn_sum c (t + 1) ≤ 198 * (t + 1) := pn_sum_le _ (fun i _ => hc i)
  have key := pq_lp (G := fun fu i (σ : Nat × ya_D) => f_X5_missing_L46 z (nI t) K fu (nI σ.1) (nI i) σ.2) (E := fun (σ : Nat × ya_D) => K (nI σ.1) σ.2) (n := t + 1)
    (I := fun i σ => t - k ≤ i ∧ σ.1 = s - (pn_sum c i - max G B) ∧ (∀ j, t - k ≤ j → j < i → σ.2.1 77 j = nI (pv_tk c (max G B + s) j)) ∧ (∀ j, i ≤ j → j < n → σ.2.1 77 j = nI (pv_tk c G j)) ∧ (∀ a, a ≠ 77 → σ.2.1 a = d.1 a) ∧ σ.2.2 = d.2)
    (Q := fun σ => σ.1 = max G B + s - pn_sum c (t + 1) ∧ (∀ i, t - k ≤ i → i < n → σ.2.1 77 i = nI (pv_tk c (min (pn_sum c (t + 1)) (max G B + s)) i)) ∧ (∀ a, a ≠ 77 → σ.2.1 a = d.1 a) ∧ σ.2.2 = d.2)
    (fun fu σ hI => ?_) (fun fu i σ hi hI => ?_) ya_F (t - k) (s, d) (by omega) (by unfold ya_F; omega) ⟨Nat.le_refl _, by rw [hB]; show s = _; omega, fun j h1 h2 => by omega, fun j h1 h2 => h77 j h1 h2, fun _ _ => rfl, rfl⟩
  · obtain ⟨σ, ⟨q1, q2, q3, q4⟩, k1⟩ := key
    refine ⟨σ.2, ⟨q2, q3, q4⟩, k1.trans ?_⟩
    rw [q1]
  · obtain ⟨e0, e1, e2, e3, e4, e5⟩ := hI
    have hBA := hmono (t - k) (t + 1) (by omega)
    have hGA := hmono t (t + 1) (by omega)
    rw [hB] at hBA
    refine ⟨σ, ⟨by omega, fun i h1 h2 => ?_, e4, e5⟩, ?_⟩
    · by_cases c1 : i < t + 1
      · rw [e2 i h1 c1]
        have := hmono (i + 1) (t + 1) (by omega)
        rw [pn_sum] at this
        unfold pv_tk
        rw [show c i - (max G B + s - pn_sum c i) = c i - (min (pn_sum c (t + 1)) (max G B + s) - pn_sum c i) by omega]
      · rw [e3 i (by omega) h2]
        have := hmono (t + 1) i (by omega)
        unfold pv_tk
        rw [show c i - (G - pn_sum c i) = c i - (min (pn_sum c (t + 1)) (max G B + s) - pn_sum c i) by omega]
    · show f_X5_missing_L46 _ _ _ (fu + 1) _ _ _ = _
      rw [f_X5_missing_L46, if_pos (nI_lt (by omega) (by omega))]
  · obtain ⟨σ1, σ2⟩ := σ
    obtain ⟨e0, e1, e2, e3, e4, e5⟩ := hI
    simp only at e1 e2 e3 e4 e5
    have hBi := hmono (t - k) i e0
    rw [hB] at hBi
    have hii : pn_sum c (i + 1) = pn_sum c i + c i := rfl
    have hiA := hmono (i + 1) (t + 1) (by omega)
    have hBA := hmono (t - k) (t + 1) (by omega)
    have hGA := hmono t (t + 1) (by omega)
    rw [hB] at hBA
    have hci := hc i
    by_cases c0 : σ1 = 0
    · left
      have hsm : max G B + s ≤ pn_sum c i ∨ s = 0 := by omega
      refine ⟨(σ1, σ2), ⟨?_, fun j h1 h2 => ?_, e4, e5⟩, ?_⟩
      · show σ1 = _
        omega
      · by_cases c1 : j < i
        · rw [e2 j h1 c1]
          have := hmono (j + 1) (t + 1) (by omega)
          rw [pn_sum] at this
          unfold pv_tk
          rw [show c j - (max G B + s - pn_sum c j) = c j - (min (pn_sum c (t + 1)) (max G B + s) - pn_sum c j) by omega]
        · rw [e3 j (by omega) h2]
          have h3 := hmono i j (by omega)
          unfold pv_tk
          rw [show c j - (G - pn_sum c j) = c j - (min (pn_sum c (t + 1)) (max G B + s) - pn_sum c j) by omega]
      · show f_X5_missing_L46 _ _ _ (fu + 1) _ _ _ = _
        rw [f_X5_missing_L46, if_neg (nI_nlt (by omega) (by omega)), c0, if_pos (show nI ((0 : Nat), σ2).1 ≤ 0 from (by decide : nI 0 ≤ 0))]
    · right
      have hr := e3 i (Nat.le_refl _) (by omega)
      have hz : pv_tk c G i - min σ1 (pv_tk c G i) = pv_tk c (max G B + s) i := by unfold pv_tk; omega
      have hle : pv_tk c G i ≤ 198 := by unfold pv_tk; omega
      refine ⟨(σ1 - min σ1 (pv_tk c G i), ya_sI σ2 77 i (nI (pv_tk c (max G B + s) i))), ⟨by omega, ?_, fun j h1 h2 => ?_, fun j h1 h2 => ?_, fun a ha => (rw_n ha).trans (e4 a ha), e5⟩, ?_⟩
      · show σ1 - min σ1 (pv_tk c G i) = s - (pn_sum c (i + 1) - max G B)
        unfold pv_tk; omega
      · show (ya_sI σ2 77 i (nI (pv_tk c (max G B + s) i))).1 77 j = _
        by_cases c1 : j = i
        · rw [c1, pn_e ⟨rfl, rfl⟩]
        · rw [pn_o (Or.inr c1)]; exact e2 j h1 (by omega)
      · show (ya_sI σ2 77 i (nI (pv_tk c (max G B + s) i))).1 77 j = _
        rw [pn_o (by omega)]; exact e3 j (by omega) h2
      · show f_X5_missing_L46 _ _ _ (fu + 1) _ _ _ = f_X5_missing_L46 _ _ _ fu _ _ _
        rw [f_X5_missing_L46, if_neg (nI_nlt (by omega) (by omega)), if_neg (nI_nle (by omega) (by omega)), ← hz]
        simp (disch := omega) only [pl_0, pl_1, pl_2, pl_3, pl_4, pl_5, pl_6, pl_7, pl_8, pl_9, pl_10, pl_11, pl_12, pl_20, pl_24, pl_30, pl_31, pl_60, pl_99, pl_100, pl_111, pl_211, pl_311, pl_326, pl_400, pl_426, pb_s, ya_b2s, pj_0, pj_1, pj_2, pj_3, pb_pI, pb_pL, pm_cell1, pm_cell2, nI_add, pn_mul, pn_sub, pn_rI, pn_wI, pn_eq, pn_le, pn_lt, pm_min, pn_o, pn_e, pn_sI2, Nat.zero_add, Nat.add_zero, hr]
/-- what the class has loaded -/
def sa_L (d : ya_D) (c q P : Nat → Nat) (k n : Nat) : Prop := n ≤ 20 ∧ k ≤ 30 ∧ (∀ i, c i ≤ 198) ∧ (∀ t, q t ≤ 63) ∧ (∀ t, P t ≤ 99) ∧ d.1 72 6 = nI n ∧ d.1 72 7 = nI k ∧ (∀ t, t < n → d.1 73 t = nI (P t) ∧ d.1 74 t = nI (q t) ∧ d.1 75 t = nI (c t))
theorem sa_missing (h : sa_L d c q P k n) {s : Nat → Nat} (hs : ∀ t, s t ≤ 63) (h76 : ∀ t, t < n → d.1 76 t = nI (s t)) : ∃ d', (∀ a, a ≠ 77 → d'.1 a = d.1 a) ∧ d'.2 = d.2 ∧ f_X5_missing d = some (nI (pv_M c k s n), d') := by
  obtain ⟨b1, b2, b3, b4, b5, h6, h7, hr⟩ := h
  have hcp : ∃ d1, (∀ i, i < n → d1.1 77 i = nI (c i)) ∧ (∀ a, a ≠ 77 → d1.1 a = d.1 a) ∧ d1.2 = d.2 ∧ ya_kI d 75 20 0 77 20 0 20 = some d1 := by
    refine ⟨ya_cI d 75 0 77 0 20, fun i hi => ?_, fun a ha => ?_, rfl, rfl⟩
    · show (if 77 = 77 ∧ 0 ≤ i ∧ i < 0 + 20 then d.1 75 (0 + (i - 0)) else d.1 77 i) = _
      rw [if_pos ⟨rfl, Nat.zero_le _, by omega⟩, show 0 + (i - 0) = i by omega]
      exact (hr i hi).2.2
    · funext i
      exact if_neg (fun w => ha w.1)
  obtain ⟨d1, k1, k2, k3, k4⟩ := hcp
  unfold f_X5_missing
  rw [k4, Option.bind_some]
  have key := pq_lp (G := fun fu i (σ : Nat × ya_D) => f_X5_missing_L19 fu (nI σ.1) (nI i) σ.2) (E := fun (σ : Nat × ya_D) => some (nI σ.1, σ.2)) (n := n)
    (I := fun t σ => ∃ G, G ≤ pn_sum c t ∧ (∀ i, t - k ≤ i → i < n → σ.2.1 77 i = nI (pv_tk c G i)) ∧ (∀ a, a ≠ 77 → σ.2.1 a = d.1 a) ∧ σ.2.2 = d.2 ∧ σ.1 + pv_N c k s (n - t) t G = pv_M c k s n)
    (Q := fun σ => σ.1 = pv_M c k s n ∧ (∀ a, a ≠ 77 → σ.2.1 a = d.1 a) ∧ σ.2.2 = d.2)
    (fun fu σ hI => ?_) (fun fu t σ ht hI => ?_) ya_F 0 (0, d1) (by omega) (by unfold ya_F; omega) ⟨0, Nat.zero_le _, fun i _ hi => by
      show d1.1 77 i = _
      rw [k1 i hi]; unfold pv_tk; rw [Nat.zero_sub, Nat.sub_zero], k2, k3, by show 0 + _ = _; rw [Nat.zero_add, Nat.sub_zero]⟩
  · obtain ⟨σ, ⟨q1, q2, q3⟩, z1⟩ := key
    refine ⟨σ.2, q2, q3, ?_⟩
    rw [← q1, pl_0]; exact z1
  · obtain ⟨G, g1, g2, g3, g4, g5⟩ := hI
    rw [Nat.sub_self, pv_N, Nat.add_zero] at g5
    refine ⟨σ, ⟨g5, g3, g4⟩, ?_⟩
    show f_X5_missing_L19 (fu + 1) _ _ _ = _
    rw [f_X5_missing_L19, g3 72 (by omega), h6, if_pos (nI_le (Nat.le_refl _) (by omega))]
  · obtain ⟨G, g1, g2, g3, g4, g5⟩ := hI
    right
    have hst := hs t
    have hAb : pn_sum c (t + 1) ≤ 198 * (t + 1) := pn_sum_le _ (fun i _ => b3 i)
    have hBA := pn_sum_m (f := c) (m := t - k) (t + 1) (by omega)
    have hGA := pn_sum_m (f := c) (m := t) (t + 1) (by omega)
    obtain ⟨d2, ⟨A1, A2, A3⟩, A4⟩ := sa_in (d := σ.2) (k := k) (t := t) (s := s t) (G := G) (nI σ.1) ht b1 (by omega) b3 g1 g2 (fun v3_92 d_92 => f_X5_missing_L19 fu (nI σ.1 + v3_92) (nI t + 1) d_92)
    refine ⟨(σ.1 + (max G (pn_sum c (t - k)) + s t - pn_sum c (t + 1)), d2), ⟨min (pn_sum c (t + 1)) (max G (pn_sum c (t - k)) + s t), by omega, fun i h1 h2 => A1 i (by omega) h2, fun a ha => (A2 a ha).trans (g3 a ha), A3.trans g4, ?_⟩, ?_⟩
    · rw [← g5, show n - t = (n - (t + 1)) + 1 by omega, pv_N]
      show σ.1 + _ + _ = _
      omega
    · show f_X5_missing_L19 (fu + 1) _ _ _ = f_X5_missing_L19 fu _ _ _
      rw [f_X5_missing_L19, g3 72 (by omega), h6, if_neg (nI_ge ht (by omega)), pn_rI (by omega) (by omega), pb_s, g3 76 (by omega), h76 t ht, h7, pm_max0 (by omega) (by omega), A4, nI_add, nI_1]
end
