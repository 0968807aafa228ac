/-! A seller alone: the reference -/
section
variable {d e : ya_D} {M : pm_M} {c q P : Nat → Nat} {k n : Nat}
/-- the oldest first, of what still is: one day, in the reference -/
theorem sb_in {t s G : Nat} (z : Int32) (ht : t < n) (hn : n ≤ 20) (hs : s < 2 ^ 20) (hc : ∀ i, c i ≤ 198) (hG : G ≤ pn_sum c t) (h103 : ∀ i, t - k ≤ i → i < n → d.1 103 i = nI (pv_tk c G i)) (K : Int32 → ya_D → Option (Int32 × ya_D)) :
    ∃ d', ((∀ i, t - k ≤ i → i < n → d'.1 103 i = nI (pv_tk c (min (pn_sum c (t + 1)) (max G (pn_sum c (t - k)) + s)) i)) ∧ (∀ a, a ≠ 103 → d'.1 a = d.1 a) ∧ d'.2 = d.2) ∧ f_X12_canFill_L69 z (nI t) K ya_F (nI s) (nI (t - k)) d = K (nI (max G (pn_sum c (t - k)) + s - pn_sum c (t + 1))) d' := by
  generalize hB : pn_sum c (t - k) = B
  have hmono : ∀ i j, i ≤ j → pn_sum c i ≤ pn_sum c j := fun i j h => pn_sum_m j h
  have hAb : pn_sum c (t + 1) ≤ 198 * (t + 1) := pn_sum_le _ (fun i _ => hc i)
  have key := pq_lp (G := fun fu i (σ : Nat × ya_D) => f_X12_canFill_L69 z (nI t) K fu (nI σ.1) (nI i) σ.2) (E := fun (σ : Nat × ya_D) => K (nI σ.1) σ.2) (n := t + 1)
    (I := fun i σ => t - k ≤ i ∧ σ.1 = s - (pn_sum c i - max G B) ∧ (∀ j, t - k ≤ j → j < i → σ.2.1 103 j = nI (pv_tk c (max G B + s) j)) ∧ (∀ j, i ≤ j → j < n → σ.2.1 103 j = nI (pv_tk c G j)) ∧ (∀ a, a ≠ 103 → σ.2.1 a = d.1 a) ∧ σ.2.2 = d.2)
    (Q := fun σ => σ.1 = max G B + s - pn_sum c (t + 1) ∧ (∀ i, t - k ≤ i → i < n → σ.2.1 103 i = nI (pv_tk c (min (pn_sum c (t + 1)) (max G B + s)) i)) ∧ (∀ a, a ≠ 103 → σ.2.1 a = d.1 a) ∧ σ.2.2 = d.2)
    (fun fu σ hI => ?_) (fun fu i σ hi hI => ?_) ya_F (t - k) (s, d) (by omega) (by unfold ya_F; omega) ⟨Nat.le_refl _, by rw [hB]; show s = _; omega, fun j h1 h2 => by omega, fun j h1 h2 => h103 j h1 h2, fun _ _ => rfl, rfl⟩
  · obtain ⟨σ, ⟨q1, q2, q3, q4⟩, k1⟩ := key
    refine ⟨σ.2, ⟨q2, q3, q4⟩, k1.trans ?_⟩
    rw [q1]
  · obtain ⟨e0, e1, e2, e3, e4, e5⟩ := hI
    have hBA := hmono (t - k) (t + 1) (by omega)
    have hGA := hmono t (t + 1) (by omega)
    rw [hB] at hBA
    refine ⟨σ, ⟨by omega, fun i h1 h2 => ?_, e4, e5⟩, ?_⟩
    · by_cases c1 : i < t + 1
      · rw [e2 i h1 c1]
        have := hmono (i + 1) (t + 1) (by omega)
        rw [pn_sum] at this
        unfold pv_tk
        rw [show c i - (max G B + s - pn_sum c i) = c i - (min (pn_sum c (t + 1)) (max G B + s) - pn_sum c i) by omega]
      · rw [e3 i (by omega) h2]
        have := hmono (t + 1) i (by omega)
        unfold pv_tk
        rw [show c i - (G - pn_sum c i) = c i - (min (pn_sum c (t + 1)) (max G B + s) - pn_sum c i) by omega]
    · show f_X12_canFill_L69 _ _ _ (fu + 1) _ _ _ = _
      rw [f_X12_canFill_L69, if_pos (nI_lt (by omega) (by omega))]
  · obtain ⟨σ1, σ2⟩ := σ
    obtain ⟨e0, e1, e2, e3, e4, e5⟩ := hI
    simp only at e1 e2 e3 e4 e5
    have hBi := hmono (t - k) i e0
    rw [hB] at hBi
    have hii : pn_sum c (i + 1) = pn_sum c i + c i := rfl
    have hiA := hmono (i + 1) (t + 1) (by omega)
    have hBA := hmono (t - k) (t + 1) (by omega)
    have hGA := hmono t (t + 1) (by omega)
    rw [hB] at hBA
    have hci := hc i
    by_cases c0 : σ1 = 0
    · left
      have hsm : max G B + s ≤ pn_sum c i ∨ s = 0 := by omega
      refine ⟨(σ1, σ2), ⟨?_, fun j h1 h2 => ?_, e4, e5⟩, ?_⟩
      · show σ1 = _
        omega
      · by_cases c1 : j < i
        · rw [e2 j h1 c1]
          have := hmono (j + 1) (t + 1) (by omega)
          rw [pn_sum] at this
          unfold pv_tk
          rw [show c j - (max G B + s - pn_sum c j) = c j - (min (pn_sum c (t + 1)) (max G B + s) - pn_sum c j) by omega]
        · rw [e3 j (by omega) h2]
          have h3 := hmono i j (by omega)
          unfold pv_tk
          rw [show c j - (G - pn_sum c j) = c j - (min (pn_sum c (t + 1)) (max G B + s) - pn_sum c j) by omega]
      · show f_X12_canFill_L69 _ _ _ (fu + 1) _ _ _ = _
        rw [f_X12_canFill_L69, if_neg (nI_nlt (by omega) (by omega)), c0, if_pos (show nI ((0 : Nat), σ2).1 ≤ 0 from (by decide : nI 0 ≤ 0))]
    · right
      have hr := e3 i (Nat.le_refl _) (by omega)
      have hz : pv_tk c G i - min σ1 (pv_tk c G i) = pv_tk c (max G B + s) i := by unfold pv_tk; omega
      have hle : pv_tk c G i ≤ 198 := by unfold pv_tk; omega
      refine ⟨(σ1 - min σ1 (pv_tk c G i), ya_sI σ2 103 i (nI (pv_tk c (max G B + s) i))), ⟨by omega, ?_, fun j h1 h2 => ?_, fun j h1 h2 => ?_, fun a ha => (rw_n ha).trans (e4 a ha), e5⟩, ?_⟩
      · show σ1 - min σ1 (pv_tk c G i) = s - (pn_sum c (i + 1) - max G B)
        unfold pv_tk; omega
      · show (ya_sI σ2 103 i (nI (pv_tk c (max G B + s) i))).1 103 j = _
        by_cases c1 : j = i
        · rw [c1, pn_e ⟨rfl, rfl⟩]
        · rw [pn_o (Or.inr c1)]; exact e2 j h1 (by omega)
      · show (ya_sI σ2 103 i (nI (pv_tk c (max G B + s) i))).1 103 j = _
        rw [pn_o (by omega)]; exact e3 j (by omega) h2
      · show f_X12_canFill_L69 _ _ _ (fu + 1) _ _ _ = f_X12_canFill_L69 _ _ _ fu _ _ _
        rw [f_X12_canFill_L69, if_neg (nI_nlt (by omega) (by omega)), if_neg (nI_nle (by omega) (by omega)), ← hz]
        simp (disch := omega) only [pl_0, pl_1, pl_2, pl_3, pl_4, pl_5, pl_6, pl_7, pl_8, pl_9, pl_10, pl_11, pl_12, pl_20, pl_24, pl_30, pl_31, pl_60, pl_99, pl_100, pl_111, pl_211, pl_311, pl_326, pl_400, pl_426, pb_s, ya_b2s, pj_0, pj_1, pj_2, pj_3, pb_pI, pb_pL, pm_cell1, pm_cell2, nI_add, pn_mul, pn_sub, pn_rI, pn_wI, pn_eq, pn_le, pn_lt, pm_min, pn_o, pn_e, pn_sI2, Nat.zero_add, Nat.add_zero, hr]
/-- whether it can be filled so -/
theorem sb_can (hJ : pm_J e M) {s : Nat} {f : Nat → Nat} (hs : s < M 0 4) (hf : ∀ t, f t ≤ 63) (h102 : ∀ t, t < M 0 1 → e.1 102 t = nI (f t)) : ∃ e', (∀ a, a ≠ 103 → e'.1 a = e.1 a) ∧ e'.2 = e.2 ∧ f_X12_canFill (nI s) e = some (nI (if pv_M (pm_cm M s) (M 1 (M 5 s)) f (M 0 1) = 0 then 1 else 0), e') := by
  obtain ⟨⟨b0, b1, b2, b3, b4, b5⟩, w1, w2, w3, -, w5⟩ := pk_w hJ.2
  have h3 := w3 s hs
  have hkk := w1 _ h3.1
  have hcb : ∀ i, i < M 0 1 → pm_cm M s i ≤ 198 := fun i hi => pm_cm_le hJ.2 hs hi
  -- what comes, with nothing beyond the days
  generalize hk : M 1 (M 5 s) = k at hkk
  have hcc : ∀ f, pv_M (pm_cm M s) k f (M 0 1) = pv_M (fun i => if i < M 0 1 then pm_cm M s i else 0) k f (M 0 1) := fun f => pv_N_cc (M 0 1) 0 0 (fun i hi => (if_pos (by omega)).symm)
  rw [hcc]
  have hc198 : ∀ i, (if i < M 0 1 then pm_cm M s i else 0) ≤ 198 := fun i => by
    split
    · exact hcb i (by assumption)
    · omega
  have hcin : ∀ i, i < M 0 1 → (if i < M 0 1 then pm_cm M s i else 0) = pm_cm M s i := fun i hi => if_pos hi
  generalize hC : (fun i => if i < M 0 1 then pm_cm M s i else 0) = C
  have hC198 : ∀ i, C i ≤ 198 := fun i => by rw [← hC]; exact hc198 i
  have hCin : ∀ i, i < M 0 1 → pm_cm M s i = C i := fun i hi => by rw [← hC]; exact (hcin i hi).symm
  unfold f_X12_canFill
  rw [pk_thing hJ.1 hJ.2 hs, pb_s, pk_keeps hJ.1 hJ.2 h3.1, pb_s, hk]
  have k1 := pq_lp (G := fun fu i (σ : ya_D) => f_X12_canFill_L12 (nI s) (nI k) (fun d_40 => f_X12_canFill_L42 (nI k) ya_F 0 d_40) fu (nI i) σ) (E := fun d_40 => f_X12_canFill_L42 (nI k) ya_F 0 d_40) (n := M 0 1)
    (I := fun i σ => (∀ t, t < i → σ.1 103 t = nI (C t)) ∧ (∀ a, a ≠ 103 → σ.1 a = e.1 a) ∧ σ.2 = e.2) (Q := fun σ => (∀ t, t < M 0 1 → σ.1 103 t = nI (C t)) ∧ (∀ a, a ≠ 103 → σ.1 a = e.1 a) ∧ σ.2 = e.2)
    (fun fu σ hI => ?_) (fun fu i σ hi hI => Or.inr ?_) ya_F 0 e (by omega) (by unfold ya_F; omega) ⟨fun t ht => by omega, fun _ _ => rfl, rfl⟩
  · obtain ⟨e1, ⟨A1, A2, A3⟩, A4⟩ := k1
    rw [pl_0] at A4 ⊢
    rw [A4]
    have hJ1 : pm_J e1 M := ⟨pm_R_c hJ.1 (fun q => congrFun (A2 84 (by omega)) q), hJ.2⟩
    have key := pq_lp (G := fun fu i (σ : ya_D) => f_X12_canFill_L42 (nI k) fu (nI i) σ) (E := fun (σ : Int32 × ya_D) => some σ) (n := M 0 1)
      (I := fun t σ => ∃ G, G ≤ pn_sum C t ∧ (∀ i, t - k ≤ i → i < M 0 1 → σ.1 103 i = nI (pv_tk C G i)) ∧ (∀ a, a ≠ 103 → σ.1 a = e.1 a) ∧ σ.2 = e.2 ∧ pv_N C k f (M 0 1 - t) t G = pv_M C k f (M 0 1))
      (Q := fun σ => σ.1 = nI (if pv_M C k f (M 0 1) = 0 then 1 else 0) ∧ (∀ a, a ≠ 103 → σ.2.1 a = e.1 a) ∧ σ.2.2 = e.2)
      (fun fu σ hI => ?_) (fun fu t σ ht hI => ?_) ya_F 0 e1 (by omega) (by unfold ya_F; omega) ⟨0, Nat.zero_le _, fun i _ hi => by rw [A1 i hi]; unfold pv_tk; rw [Nat.zero_sub, Nat.sub_zero], A2, A3, by rw [Nat.sub_zero]⟩
    · obtain ⟨σ, ⟨q1, q2, q3⟩, z1⟩ := key
      refine ⟨σ.2, q2, q3, ?_⟩
      rw [z1, ← q1]
    · obtain ⟨G, g1, g2, g3, g4, g5⟩ := hI
      rw [Nat.sub_self, pv_N] at g5
      have hJσ : pm_J σ M := ⟨pm_R_c hJ.1 (fun q => congrFun (g3 84 (by omega)) q), hJ.2⟩
      refine ⟨(nI 1, σ), ⟨by rw [if_pos g5.symm], g3, g4⟩, ?_⟩
      show f_X12_canFill_L42 _ (fu + 1) _ _ = _
      rw [f_X12_canFill_L42, pm_dy2 hJσ, pb_s, if_pos (nI_le (Nat.le_refl _) (by omega))]
      rfl
    · obtain ⟨G, g1, g2, g3, g4, g5⟩ := hI
      have hJσ : pm_J σ M := ⟨pm_R_c hJ.1 (fun q => congrFun (g3 84 (by omega)) q), hJ.2⟩
      have hst := hf t
      have hAb : pn_sum C (t + 1) ≤ 198 * (t + 1) := pn_sum_le _ (fun i _ => hC198 i)
      have hBA := pn_sum_m (f := C) (m := t - k) (t + 1) (by omega)
      have hGA := pn_sum_m (f := C) (m := t) (t + 1) (by omega)
      obtain ⟨d2, ⟨B1, B2, B3⟩, B4⟩ := sb_in (d := σ) (c := C) (k := k) (n := M 0 1) (t := t) (s := f t) (G := G) (nI k) ht b1 (by omega) hC198 g1 g2 (fun v4_119 d_119 => if v4_119 ≤ 0 then f_X12_canFill_L42 (nI k) fu (nI t + 1) d_119 else some (0, d_119))
      rw [show M 0 1 - t = (M 0 1 - (t + 1)) + 1 by omega, pv_N] at g5
      have hbody : f_X12_canFill_L42 (nI k) (fu + 1) (nI t) σ = if nI (max G (pn_sum C (t - k)) + f t - pn_sum C (t + 1)) ≤ 0 then f_X12_canFill_L42 (nI k) fu (nI t + 1) d2 else some (0, d2) := by
        rw [f_X12_canFill_L42, pm_dy2 hJσ, pb_s, if_neg (nI_ge ht (by omega)), pn_rI (by omega) (by omega), pb_s, g3 102 (by omega), h102 t ht, pm_max0 (by omega) (by omega), B4]
      by_cases c1 : max G (pn_sum C (t - k)) + f t - pn_sum C (t + 1) = 0
      · right
        refine ⟨d2, ⟨min (pn_sum C (t + 1)) (max G (pn_sum C (t - k)) + f t), by omega, fun i h1 h2 => B1 i (by omega) h2, fun a ha => (B2 a ha).trans (g3 a ha), B3.trans g4, by omega⟩, ?_⟩
        exact hbody.trans (by rw [c1, if_pos (by decide), nI_1])
      · left
        refine ⟨(0, d2), ⟨by rw [if_neg (by omega)]; rfl, fun a ha => (B2 a ha).trans (g3 a ha), B3.trans g4⟩, ?_⟩
        exact hbody.trans (if_neg (nI_nle (by omega) (by omega)))
  · have hJσ : pm_J σ M := ⟨pm_R_c hJ.1 (fun q => congrFun (hI.2.1 84 (by omega)) q), hJ.2⟩
    refine ⟨σ, hI, ?_⟩
    show f_X12_canFill_L12 _ _ _ (fu + 1) _ _ = _
    rw [f_X12_canFill_L12, pm_dy2 hJσ, pb_s, if_pos (nI_le (Nat.le_refl _) (by omega))]
  · obtain ⟨g1, g2, g3⟩ := hI
    have hJσ : pm_J σ M := ⟨pm_R_c hJ.1 (fun q => congrFun (g2 84 (by omega)) q), hJ.2⟩
    refine ⟨ya_sI σ 103 i (nI (C i)), ⟨fun t ht => ?_, fun a ha => (rw_n ha).trans (g2 a ha), g3⟩, ?_⟩
    · by_cases c1 : t = i
      · rw [c1, pn_e ⟨rfl, rfl⟩]
      · rw [pn_o (Or.inr c1)]; exact g1 t (by omega)
    · show f_X12_canFill_L12 _ _ _ (fu + 1) _ _ = f_X12_canFill_L12 _ _ _ fu _ _
      rw [f_X12_canFill_L12, pm_dy2 hJσ, pb_s, if_neg (nI_ge hi (by omega)), pk_comesTo hJσ.1 hJ.2 hs hi, pb_s, pn_wI (by omega) (by omega), pb_s, nI_1, hCin i hi]
/-- filled up as far as can be -/
theorem sb_fills (hJ : pm_J e M) {s j Q : Nat} {f : Nat → Nat} (hs : s < M 0 4) (hj : j < M 0 1) (hQ : Q ≤ 63) (hf : ∀ t, f t ≤ 63) (h0 : pv_M (pm_cm M s) (M 1 (M 5 s)) (pn_up f j 0) (M 0 1) = 0) (h102 : ∀ t, t < M 0 1 → t ≠ j → e.1 102 t = nI (f t)) : ∃ e', e'.1 102 j = nI (Q - pv_M (pm_cm M s) (M 1 (M 5 s)) (pn_up f j Q) (M 0 1)) ∧ (∀ t, t ≠ j → e'.1 102 t = e.1 102 t) ∧ (∀ a, a ≠ 102 → a ≠ 103 → e'.1 a = e.1 a) ∧ e'.2 = e.2 ∧ f_X12_fillsUp (nI s) (nI j) (nI Q) e = some e' := by
  obtain ⟨⟨b0, b1, b2, b3, b4, b5⟩, w1, w2, w3, -, w5⟩ := pk_w hJ.2
  obtain ⟨p1, p2, p3⟩ := pv_phi (c := pm_cm M s) (k := M 1 (M 5 s)) (n := M 0 1) (s := f) (j := j) (Q := Q) h0
  generalize hF : Q - pv_M (pm_cm M s) (M 1 (M 5 s)) (pn_up f j Q) (M 0 1) = F at p2 p3
  have key : ∀ fu lo hi (e1 : ya_D), lo ≤ F → F ≤ hi → hi ≤ Q → hi - lo < fu → (∀ t, t ≠ j → e1.1 102 t = e.1 102 t) → (∀ a, a ≠ 102 → a ≠ 103 → e1.1 a = e.1 a) → e1.2 = e.2 → ∃ e', e'.1 102 j = nI F ∧ (∀ t, t ≠ j → e'.1 102 t = e.1 102 t) ∧ (∀ a, a ≠ 102 → a ≠ 103 → e'.1 a = e.1 a) ∧ e'.2 = e.2 ∧ f_X12_fillsUp_L6 (nI s) (nI j) fu (nI lo) (nI hi) e1 = some e' := by
    intro fu
    induction fu with
    | zero => intro lo hi e1 _ _ _ h; omega
    | succ fu ih =>
      intro lo hi e1 l1 l2 l3 l4 q1 q2 q3
      by_cases c1 : hi ≤ lo
      · refine ⟨ya_sI e1 102 j (nI lo), ?_, fun t ht => (pn_o (Or.inr ht)).trans (q1 t ht), fun a h1 h2 => (rw_n h1).trans (q2 a h1 h2), q3, ?_⟩
        · rw [pn_e ⟨rfl, rfl⟩, show lo = F by omega]
        · rw [f_X12_fillsUp_L6, if_pos (nI_le c1 (by omega)), pn_wI (by omega) (by omega), pb_s]
      · have hmid : (nI lo + nI hi + 1) / 2 = nI ((lo + hi + 1) / 2) := by
          rw [nI_add, nI_1, show (2 : Int32) = nI 2 from rfl, pk_div (by omega) (by omega) (by omega)]
        generalize hm : (lo + hi + 1) / 2 = mid at hmid
        have hJ1 : pm_J (ya_sI e1 102 j (nI mid)) M := ⟨pm_R_c hJ.1 (fun q => (congrFun (rw_n (by decide)) q).trans (congrFun (q2 84 (by omega) (by omega)) q)), hJ.2⟩
        obtain ⟨e2, A1, A2, A3⟩ := sb_can hJ1 (f := pn_up f j mid) hs (fun t => by
          unfold pn_up
          split
          · omega
          · exact hf t) (fun t ht => by
          by_cases c2 : t = j
          · rw [c2, pn_e ⟨rfl, rfl⟩, pn_upe]
          · rw [pn_o (Or.inr c2), pn_upn c2, q1 t c2]; exact h102 t ht c2)
        have hrow : ∀ t, t ≠ j → e2.1 102 t = e.1 102 t := fun t ht => by rw [A1 102 (by omega), pn_o (Or.inr ht)]; exact q1 t ht
        have hrows : ∀ a, a ≠ 102 → a ≠ 103 → e2.1 a = e.1 a := fun a h1 h2 => (A1 a h2).trans ((rw_n h1).trans (q2 a h1 h2))
        have hread : ya_rI e2 102 20 (nI j) = some (nI mid) := by
          rw [pn_rI (by omega) (by omega), A1 102 (by omega), pn_e ⟨rfl, rfl⟩]
        have hbody : f_X12_fillsUp_L6 (nI s) (nI j) (fu + 1) (nI lo) (nI hi) e1 = if nI (if pv_M (pm_cm M s) (M 1 (M 5 s)) (pn_up f j mid) (M 0 1) = 0 then 1 else 0) = 0 then f_X12_fillsUp_L6 (nI s) (nI j) fu (nI lo) (nI mid - 1) e2 else f_X12_fillsUp_L6 (nI s) (nI j) fu (nI mid) (nI hi) e2 := by
          rw [f_X12_fillsUp_L6, if_neg (nI_ge (by omega) (by omega)), hmid, pn_wI (by omega) (by omega), pb_s, A3, ya_b2s, hread, pb_s, pb_s]
        rw [hbody]
        by_cases c2 : pv_M (pm_cm M s) (M 1 (M 5 s)) (pn_up f j mid) (M 0 1) = 0
        · rw [if_pos c2, if_neg (show ¬ nI 1 = 0 from pn_10)]
          have := (p3 mid (by omega)).mp c2
          exact ih mid hi e2 (by omega) l2 l3 (by omega) hrow hrows (A2.trans q3)
        · rw [if_neg c2, if_pos (show nI 0 = 0 from rfl), pl_1, pn_sub (by omega)]
          have : ¬ mid ≤ F := fun h => c2 ((p3 mid (by omega)).mpr h)
          exact ih lo (mid - 1) e2 l1 (by omega) (by omega) (by omega) hrow hrows (A2.trans q3)
  obtain ⟨e', k1, k2, k3, k4, k5⟩ := key ya_F 0 Q e (Nat.zero_le _) (by omega) (Nat.le_refl _) (by unfold ya_F; omega) (fun _ _ => rfl) (fun _ _ _ => rfl) rfl
  refine ⟨e', k1, k2, k3, k4, ?_⟩
  unfold f_X12_fillsUp
  rw [pl_0]; exact k5
end
