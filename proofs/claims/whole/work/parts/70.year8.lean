/-! The year as a whole -/
section
variable {d e : ya_D} {M M' : pm_M} {a : Nat}
theorem yr_days (hC : pm_C d 24 M) (h : ys e M M') {l g : Nat → Nat → Nat} {p : Nat → Nat} (ha : 42 ≤ a) (hD : yr_D M a 0 l g p d e) :
    ∃ (d' e' : ya_D), (∃ (l' g' : Nat → Nat → Nat) (p' : Nat → Nat), yr_D M a (M 0 1) l' g' p' d' e' ∧ yr_f1 a d d' ∧ yr_f2 e e') ∧ f_X10_run_L12 a 24 ya_F (nI 0) d = some d' ∧ f_X12_runs_L123 ya_F (nI 0) e = some e' := by
  obtain ⟨⟨b0, b1, b2, b3, b4, b5⟩, w1, w2, w3, -, w5⟩ := pk_w h.2.1
  refine pq_lp2 (G := fun fu i (d : ya_D) => f_X10_run_L12 a 24 fu (nI i) d) (E := some) (G' := fun fu i (e : ya_D) => f_X12_runs_L123 fu (nI i) e) (E' := some) (n := M 0 1)
    (I := fun i d' e' => ∃ (l' g' : Nat → Nat → Nat) (p' : Nat → Nat), yr_D M a i l' g' p' d' e' ∧ yr_f1 a d d' ∧ yr_f2 e e')
    (fun fu d' e' hI => ?_) (fun fu i d' e' hi hI => ?_) ya_F 0 d e (by omega) (by unfold ya_F; omega) ⟨l, g, p, hD, ⟨fun _ _ => rfl, fun _ _ _ => rfl, fun _ _ _ => rfl⟩, ⟨fun _ _ _ => rfl, fun _ _ => rfl, fun _ _ _ => rfl⟩⟩
  · refine ⟨d', e', hI, ?_, ?_⟩
    · show f_X10_run_L12 _ _ (fu + 1) _ _ = _
      obtain ⟨l', g', p', q1, q2, q3⟩ := hI
      rw [f_X10_run_L12, (pk_c (yr_f1_C ha q2 hC)).2.1, if_pos (nI_le (Nat.le_refl _) (by omega))]
    · show f_X12_runs_L123 (fu + 1) _ _ = _
      obtain ⟨l', g', p', q1, q2, q3⟩ := hI
      have r0 := (ys_n (yr_f2_s q3 h)).1
      rw [f_X12_runs_L123]
      simp (disch := omega) only [pl_0, pl_1, pl_2, pl_3, pl_4, pl_5, pl_6, pl_7, pl_8, pl_9, pl_10, pl_11, pl_12, pl_20, pl_24, pl_30, pl_31, pl_60, pl_99, pl_100, pl_111, pl_211, pl_311, pl_326, pl_400, pl_426, pb_s, ya_b2s, pj_0, pj_1, pj_2, pj_3, pb_pI, pb_pL, pm_cell1, pm_cell2, nI_add, pn_mul, pn_sub, pn_rI, pn_wI, pn_eq, pn_le, pn_lt, pm_min, pn_o, pn_e, pn_sI2, Nat.zero_add, Nat.add_zero, r0, Nat.le_refl, if_true]
  · obtain ⟨l', g', p', ⟨D1, D2, D3, D4, D5, D6, D7, D8, D9⟩, q2, q3⟩ := hI
    have hC0 := yr_f1_C ha q2 hC
    have h0 := yr_f2_s q3 h
    obtain ⟨d1, e1, l1, ⟨A1, A2, A3, A4, A5, A6, A7⟩, A8, A9⟩ := yr_begins hC0 h0 ha hi D1 D4 D5 (fun d_49 => f_X10_run_L52 a 24 (nI i) (fun d_78 => f_X10_run_L81 a 24 (nI i) (fun d_117 => f_X10_run_L12 a 24 fu (nI i + 1) d_117) ya_F 0 d_78) ya_F 0 d_49)
    have hC1 : pm_C d1 24 M := pm_C_c hC0 (fun a' k h1 h2 => by rw [A4 a' (by omega) (by omega) (by omega) (by omega)])
    have h1 : ys e1 M M' := ys_c h0 (A6 84 (by decide) (by decide) (by decide))
    obtain ⟨d2, e2, ⟨l2, g2, p2, B1, B2, B3, B4, B5, B6, B7, B8, B9, B10, B11, B12, B13, B14⟩, B15, B16⟩ := yr_trades hC1 h1 (p := p') ha hi A1 (yr_G_c D2 (A4 _ (by omega) (by omega) (by omega) (by omega)) (A4 _ (by omega) (by omega) (by omega) (by omega)) (A6 _ (by decide) (by decide) (by decide))) (fun s hs => by rw [A4 _ (by omega) (by omega) (by omega) (by omega), A6 _ (by decide) (by decide) (by decide)]; exact D3 s hs)
      (yr_P_c D6 (A4 _ (by omega) (by omega) (by omega) (by omega)) (A4 _ (by omega) (by omega) (by omega) (by omega)) (A4 _ (by omega) (by omega) (by omega) (by omega)) A5 (A6 _ (by decide) (by decide) (by decide)) (A6 _ (by decide) (by decide) (by decide)) (A6 _ (by decide) (by decide) (by decide)) A7)
      (yr_C_c D7 (A4 _ (by omega) (by omega) (by omega) (by omega)) (A4 _ (by omega) (by omega) (by omega) (by omega)) (A4 _ (by omega) (by omega) (by omega) (by omega)) (A6 _ (by decide) (by decide) (by decide)) (A6 _ (by decide) (by decide) (by decide)) (A6 _ (by decide) (by decide) (by decide)))
      (fun d_78 => f_X10_run_L81 a 24 (nI i) (fun d_117 => f_X10_run_L12 a 24 fu (nI i + 1) d_117) ya_F 0 d_78) (fun d_165 => f_X12_runs_L168 (nI i) (fun d_202 => f_X12_runs_L123 fu (nI i + 1) d_202) ya_F 0 d_165)
    have hC2 := yr_f1_C ha B7 hC1
    have h2 := yr_f2_s B8 h1
    obtain ⟨d3, e3, ⟨C1, C2, C3, C4, C5⟩, C6, C7⟩ := yr_stocks hC2 h2 ha hi B1 (fun s t' hs ht' => by rw [B10, B12, A4 _ (by omega) (by omega) (by omega) (by omega), A6 _ (by decide) (by decide) (by decide)]; exact D8 s t' hs ht') (fun d_117 => f_X10_run_L12 a 24 fu (nI i + 1) d_117) (fun d_202 => f_X12_runs_L123 fu (nI i + 1) d_202)
    refine ⟨d3, e3, ⟨l2, g2, p2, ⟨yr_L_c B1 (C2 _ (by omega)) (C2 _ (by omega)) (C4 _ (by decide)), yr_G_c B2 (C2 _ (by omega)) (C2 _ (by omega)) (C4 _ (by decide)), fun s hs => ?_, fun s hs => ?_, fun k hk => ?_, yr_P_c B4 (C2 _ (by omega)) (C2 _ (by omega)) (C2 _ (by omega)) C3 (C4 _ (by decide)) (C4 _ (by decide)) (C4 _ (by decide)) C5, yr_C_c B5 (C2 _ (by omega)) (C2 _ (by omega)) (C2 _ (by omega)) (C4 _ (by decide)) (C4 _ (by decide)) (C4 _ (by decide)), C1, fun b hb => ?_⟩, ?_, ?_⟩, ?_, ?_⟩
    · rw [C2 _ (by omega), C4 _ (by decide)]; exact B3 s hs
    · rw [C2 _ (by omega), C4 _ (by decide), B11, B13]; exact A2 s hs
    · rw [C2 _ (by omega), C4 _ (by decide), B9, B14]; exact A3 k hk
    · have g1 := D9 b hb
      have g2 := B6 b hb
      rw [pn_sum]; omega
    · refine yr_f1_t q2 (yr_f1_t ?_ (yr_f1_t B7 ?_))
      · exact ⟨fun a' g => A4 a' (by omega) (by omega) (by omega) (by omega), fun q g1 g2 => by rw [A4 a (by omega) (by omega) (by omega) (by omega)], fun a' k g => by rw [A5]⟩
      · exact ⟨fun a' g => C2 a' (by omega), fun q g1 g2 => by rw [C2 a (by omega)], fun a' k g => by rw [C3]⟩
    · refine yr_f2_t q3 (yr_f2_t ?_ (yr_f2_t B8 ?_))
      · exact ⟨fun a' g1 g2 => A6 a' (by omega) (by omega) (by omega), fun q g1 => by rw [A6 83 (by decide) (by decide) (by decide)], fun a' k g => by rw [A7]⟩
      · exact ⟨fun a' g1 g2 => C4 a' (by omega), fun q g1 => by rw [C4 83 (by decide)], fun a' k g => by rw [C5]⟩
    · show f_X10_run_L12 _ _ (fu + 1) _ _ = f_X10_run_L12 _ _ fu _ _
      rw [f_X10_run_L12, (pk_c hC0).2.1, if_neg (nI_ge hi (by omega)), pl_0]
      rw [pl_0] at A8 B15
      rw [A8, B15, C6, nI_1]
    · show f_X12_runs_L123 (fu + 1) _ _ = f_X12_runs_L123 fu _ _
      have r0 := (ys_n h0).1
      rw [f_X12_runs_L123, pl_0, pn_rI (by omega) (by omega), r0, pb_s, if_neg (nI_ge hi (by omega)), A9, Option.bind_some]
      rw [pl_0] at B16
      rw [B16, C7, nI_1]
/-- the class forgets -/
def pf (d : ya_D) (a n : Nat) (v : Int32) : ya_D := (fun a' k => if a' = a ∧ k < n then v else d.1 a' k, d.2)
theorem pf_I (d : ya_D) (a n : Nat) (v : Int32) : ya_fI d a n v = some (pf d a n v) := by rw [ya_fI, pf]
theorem pf_e {d : ya_D} {a n a' k : Nat} {v : Int32} (h : a' = a ∧ k < n) : (pf d a n v).1 a' k = v := if_pos h
theorem pf_o {d : ya_D} {a n a' k : Nat} {v : Int32} (h : a' ≠ a ∨ n ≤ k) : (pf d a n v).1 a' k = d.1 a' k := if_neg (by omega)
theorem pf_n {d : ya_D} {a n a' : Nat} {v : Int32} (h : a' ≠ a) : (pf d a n v).1 a' = d.1 a' := by
  funext k; exact pf_o (Or.inl h)
theorem pf_2 (d : ya_D) (a n : Nat) (v : Int32) : (pf d a n v).2 = d.2 := rfl
theorem yr_forget (ha : 42 ≤ a) (x : Int32) : ∃ d', ((∀ k, k < 100 → d'.1 (a + 4) k = nI 0 ∧ d'.1 (a + 5) k = nI 0) ∧ (∀ k, k < 5 → d'.1 (a + 8) k = nI 0 ∧ d'.1 (a + 9) k = nI 0 ∧ d'.1 (a + 10) k = nI 0 ∧ d'.1 (a + 11) k = nI 0) ∧ (∀ k, k < 7 → d'.1 (a + 12) k = nI 0 ∧ d'.1 (a + 13) k = nI 0) ∧ d'.1 a 15 = nI 0 ∧ d'.2 a 16 = x.toInt64 ∧ yr_f1 a d d') ∧ f_X10_run a 24 x d = f_X10_run_L12 a 24 ya_F (nI 0) d' := by
  refine ⟨ya_sL (ya_sI (pf (pf (pf (pf (pf (pf (pf (pf d (a + 4) 100 (nI 0)) (a + 5) 100 (nI 0)) (a + 8) 5 (nI 0)) (a + 9) 5 (nI 0)) (a + 10) 5 (nI 0)) (a + 11) 5 (nI 0)) (a + 12) 7 (nI 0)) (a + 13) 7 (nI 0)) a 15 (nI 0)) a 16 x.toInt64, ⟨fun k hk => ?_, fun k hk => ?_, fun k hk => ?_, ?_, ?_, ⟨fun a' g => ?_, fun q g1 g2 => ?_, fun a' k g => ?_⟩⟩, ?_⟩
  · simp (disch := omega) only [pn_sL1, pn_o, pf_o, pf_e, and_self]
  · simp (disch := omega) only [pn_sL1, pn_o, pf_o, pf_e, and_self]
  · simp (disch := omega) only [pn_sL1, pn_o, pf_o, pf_e, and_self]
  · simp (disch := omega) only [pn_sL1, pn_o, pn_e]
  · rw [pn_sL, if_pos ⟨rfl, rfl⟩]
  · simp (disch := omega) only [pn_sL1, rw_n, pf_n]
  · simp (disch := omega) only [pn_sL1, pn_o, pf_o]
  · rw [pn_sL, if_neg (by omega)]; rfl
  · unfold f_X10_run f_X10_forget
    simp only [pf_I, pb_s, pb_pI, pb_pL, pl_0]
/-- the reference begins -/
theorem yr_refinit (x : Int64) : ∃ e', ((∀ k, k < 100 → e'.1 90 k = nI 0 ∧ e'.1 94 k = nI 0 ∧ e'.1 95 k = nI 0 ∧ e'.1 100 k = nI 0) ∧ (∀ k, k < 5 → e'.1 96 k = nI 0 ∧ e'.1 97 k = nI 0) ∧ (∀ k, k < 7 → e'.1 98 k = nI 0 ∧ e'.1 99 k = nI 0) ∧ e'.1 83 27 = nI 0 ∧ e'.2 83 28 = x ∧ yr_f2 e e') ∧ f_X12_runs x e = f_X12_runs_L123 ya_F (nI 0) e' := by
  have k1 := pq_lp (G := fun fu i (σ : ya_D) => f_X12_runs_L12 (fun d_45 => f_X12_runs_L47 (fun d_66 => f_X12_runs_L68 (fun d_93 => f_X12_runs_L95 (fun d_121 => f_X12_runs_L123 ya_F 0 d_121) ya_F 0 d_93) ya_F 0 d_66) ya_F 0 d_45) fu (nI i) σ) (E := fun d_45 => f_X12_runs_L47 (fun d_66 => f_X12_runs_L68 (fun d_93 => f_X12_runs_L95 (fun d_121 => f_X12_runs_L123 ya_F 0 d_121) ya_F 0 d_93) ya_F 0 d_66) ya_F 0 d_45) (n := 100)
    (I := fun i σ => (∀ k, k < i → σ.1 90 k = nI 0 ∧ σ.1 94 k = nI 0 ∧ σ.1 95 k = nI 0) ∧ σ.1 83 27 = nI 0 ∧ σ.2 83 28 = x ∧ yr_f2 e σ)
    (Q := fun σ => (∀ k, k < 100 → σ.1 90 k = nI 0 ∧ σ.1 94 k = nI 0 ∧ σ.1 95 k = nI 0) ∧ σ.1 83 27 = nI 0 ∧ σ.2 83 28 = x ∧ yr_f2 e σ)
    (fun fu σ hI => ⟨σ, hI, by show f_X12_runs_L12 _ (fu + 1) _ _ = _; rw [f_X12_runs_L12, if_pos (by decide)]⟩) (fun fu i σ hi hI => Or.inr ?_) ya_F 0 (ya_sI (ya_sL e 83 28 x) 83 27 (nI 0)) (by omega) (by unfold ya_F; omega) ⟨fun k hk => by omega, pn_e ⟨rfl, rfl⟩, (show (ya_sL e 83 28 x).2 83 28 = x by rw [pn_sL, if_pos ⟨rfl, rfl⟩]), ⟨fun a' g1 g2 => rw_n g1, fun q g1 => pn_o (Or.inr g1), fun a' k g => show (ya_sL e 83 28 x).2 a' k = e.2 a' k by rw [pn_sL, if_neg (by omega)]⟩⟩
  · obtain ⟨e1, ⟨A1, A2, A3, A4⟩, A5⟩ := k1
    have k2 := pq_lp (G := fun fu i (σ : ya_D) => f_X12_runs_L47 (fun d_66 => f_X12_runs_L68 (fun d_93 => f_X12_runs_L95 (fun d_121 => f_X12_runs_L123 ya_F 0 d_121) ya_F 0 d_93) ya_F 0 d_66) fu (nI i) σ) (E := fun d_66 => f_X12_runs_L68 (fun d_93 => f_X12_runs_L95 (fun d_121 => f_X12_runs_L123 ya_F 0 d_121) ya_F 0 d_93) ya_F 0 d_66) (n := 100)
      (I := fun i σ => (∀ k, k < i → σ.1 100 k = nI 0) ∧ (∀ a', a' ≠ 100 → σ.1 a' = e1.1 a') ∧ σ.2 = e1.2)
      (Q := fun σ => (∀ k, k < 100 → σ.1 100 k = nI 0) ∧ (∀ a', a' ≠ 100 → σ.1 a' = e1.1 a') ∧ σ.2 = e1.2)
      (fun fu σ hI => ⟨σ, hI, by show f_X12_runs_L47 _ (fu + 1) _ _ = _; rw [f_X12_runs_L47, if_pos (by decide)]⟩) (fun fu i σ hi hI => Or.inr ?_) ya_F 0 e1 (by omega) (by unfold ya_F; omega) ⟨fun k hk => by omega, fun _ _ => rfl, rfl⟩
    · obtain ⟨e2, ⟨B1, B2, B3⟩, B4⟩ := k2
      have k3 := pq_lp (G := fun fu i (σ : ya_D) => f_X12_runs_L68 (fun d_93 => f_X12_runs_L95 (fun d_121 => f_X12_runs_L123 ya_F 0 d_121) ya_F 0 d_93) fu (nI i) σ) (E := fun d_93 => f_X12_runs_L95 (fun d_121 => f_X12_runs_L123 ya_F 0 d_121) ya_F 0 d_93) (n := 5)
        (I := fun i σ => (∀ k, k < i → σ.1 96 k = nI 0 ∧ σ.1 97 k = nI 0) ∧ (∀ a', a' ≠ 96 → a' ≠ 97 → σ.1 a' = e2.1 a') ∧ σ.2 = e2.2)
        (Q := fun σ => (∀ k, k < 5 → σ.1 96 k = nI 0 ∧ σ.1 97 k = nI 0) ∧ (∀ a', a' ≠ 96 → a' ≠ 97 → σ.1 a' = e2.1 a') ∧ σ.2 = e2.2)
        (fun fu σ hI => ⟨σ, hI, by show f_X12_runs_L68 _ (fu + 1) _ _ = _; rw [f_X12_runs_L68, if_pos (by decide)]⟩) (fun fu i σ hi hI => Or.inr ?_) ya_F 0 e2 (by omega) (by unfold ya_F; omega) ⟨fun k hk => by omega, fun _ _ _ => rfl, rfl⟩
      · obtain ⟨e3, ⟨C1, C2, C3⟩, C4⟩ := k3
        have k4 := pq_lp (G := fun fu i (σ : ya_D) => f_X12_runs_L95 (fun d_121 => f_X12_runs_L123 ya_F 0 d_121) fu (nI i) σ) (E := fun d_121 => f_X12_runs_L123 ya_F 0 d_121) (n := 7)
          (I := fun i σ => (∀ k, k < i → σ.1 98 k = nI 0 ∧ σ.1 99 k = nI 0) ∧ (∀ a', a' ≠ 98 → a' ≠ 99 → σ.1 a' = e3.1 a') ∧ σ.2 = e3.2)
          (Q := fun σ => (∀ k, k < 7 → σ.1 98 k = nI 0 ∧ σ.1 99 k = nI 0) ∧ (∀ a', a' ≠ 98 → a' ≠ 99 → σ.1 a' = e3.1 a') ∧ σ.2 = e3.2)
          (fun fu σ hI => ⟨σ, hI, by show f_X12_runs_L95 _ (fu + 1) _ _ = _; rw [f_X12_runs_L95, if_pos (by decide)]⟩) (fun fu i σ hi hI => Or.inr ?_) ya_F 0 e3 (by omega) (by unfold ya_F; omega) ⟨fun k hk => by omega, fun _ _ _ => rfl, rfl⟩
        · obtain ⟨e4, ⟨D1, D2, D3⟩, D4⟩ := k4
          have hrow : ∀ a', a' ≠ 98 → a' ≠ 99 → a' ≠ 96 → a' ≠ 97 → a' ≠ 100 → e4.1 a' = e1.1 a' := fun a' g1 g2 g3 g4 g5 => (D2 a' g1 g2).trans ((C2 a' g3 g4).trans (B2 a' g5))
          have hl : e4.2 = e1.2 := D3.trans (C3.trans B3)
          refine ⟨e4, ⟨fun k hk => ?_, fun k hk => ?_, D1, ?_, ?_, ⟨fun a' g1 g2 => ?_, fun q g1 => ?_, fun a' k g => ?_⟩⟩, ?_⟩
          · rw [hrow 90 (by decide) (by decide) (by decide) (by decide) (by decide), hrow 94 (by decide) (by decide) (by decide) (by decide) (by decide), hrow 95 (by decide) (by decide) (by decide) (by decide) (by decide), D2 100 (by decide) (by decide), C2 100 (by decide) (by decide)]
            exact ⟨(A1 k hk).1, (A1 k hk).2.1, (A1 k hk).2.2, B1 k hk⟩
          · rw [D2 96 (by decide) (by decide), D2 97 (by decide) (by decide)]
            exact C1 k hk
          · rw [hrow 83 (by decide) (by decide) (by decide) (by decide) (by decide)]; exact A2
          · rw [hl]; exact A3
          · rw [hrow a' (by omega) (by omega) (by omega) (by omega) (by omega)]; exact A4.1 a' g1 g2
          · rw [hrow 83 (by decide) (by decide) (by decide) (by decide) (by decide)]; exact A4.2.1 q g1
          · rw [hl]; exact A4.2.2 a' k g
          · unfold f_X12_runs
            rw [pb_pL, pb_s, pb_pI, pb_s]
            simp only [pl_0] at A5 B4 C4 D4 ⊢
            rw [A5, B4, C4, D4]
        · obtain ⟨q1, q2, q3⟩ := hI
          refine ⟨ya_sI (ya_sI σ 98 i (nI 0)) 99 i (nI 0), ⟨fun k hk => ?_, fun a' g1 g2 => (rw_n g2).trans ((rw_n g1).trans (q2 a' g1 g2)), q3⟩, ?_⟩
          · by_cases c : k = i
            · subst c
              exact ⟨(pn_o (by omega)).trans (pn_e ⟨rfl, rfl⟩), pn_e ⟨rfl, rfl⟩⟩
            · rw [pn_o (by omega), pn_o (by omega), pn_o (by omega), pn_o (by omega)]
              exact q1 k (by omega)
          · show f_X12_runs_L95 _ (fu + 1) _ _ = f_X12_runs_L95 _ fu _ _
            rw [f_X12_runs_L95, if_neg (show ¬ (7 : Int32) ≤ nI i from nI_ge (b := 7) hi (by omega)), pl_0, pn_wI (by omega) (by omega), pb_s, pn_wI (by omega) (by omega), pb_s, nI_1]
      · obtain ⟨q1, q2, q3⟩ := hI
        refine ⟨ya_sI (ya_sI σ 96 i (nI 0)) 97 i (nI 0), ⟨fun k hk => ?_, fun a' g1 g2 => (rw_n g2).trans ((rw_n g1).trans (q2 a' g1 g2)), q3⟩, ?_⟩
        · by_cases c : k = i
          · subst c
            exact ⟨(pn_o (by omega)).trans (pn_e ⟨rfl, rfl⟩), pn_e ⟨rfl, rfl⟩⟩
          · rw [pn_o (by omega), pn_o (by omega), pn_o (by omega), pn_o (by omega)]
            exact q1 k (by omega)
        · show f_X12_runs_L68 _ (fu + 1) _ _ = f_X12_runs_L68 _ fu _ _
          rw [f_X12_runs_L68, if_neg (show ¬ (5 : Int32) ≤ nI i from nI_ge (b := 5) hi (by omega)), show ∀ q, ya_wI σ 96 5 (nI i) q = some (ya_sI σ 96 i q) from fun q => pn_wI (by omega) (by omega), pb_s, pn_wI (by omega) (by omega), pb_s, nI_1]
          rfl
    · obtain ⟨q1, q2, q3⟩ := hI
      refine ⟨ya_sI σ 100 i (nI 0), ⟨fun k hk => ?_, fun a' g1 => (rw_n g1).trans (q2 a' g1), q3⟩, ?_⟩
      · by_cases c : k = i
        · subst c
          exact pn_e ⟨rfl, rfl⟩
        · rw [pn_o (by omega)]
          exact q1 k (by omega)
      · show f_X12_runs_L47 _ (fu + 1) _ _ = f_X12_runs_L47 _ fu _ _
        rw [f_X12_runs_L47, if_neg (show ¬ (100 : Int32) ≤ nI i from nI_ge (b := 100) hi (by omega)), show ∀ q, ya_wI σ 100 100 (nI i) q = some (ya_sI σ 100 i q) from fun q => pn_wI (by omega) (by omega), pb_s, nI_1]
        rfl
  · obtain ⟨q1, q2, q3, q4⟩ := hI
    refine ⟨ya_sI (ya_sI (ya_sI σ 90 i (nI 0)) 94 i (nI 0)) 95 i (nI 0), ⟨fun k hk => ?_, (pn_o (by omega)).trans ((pn_o (by omega)).trans ((pn_o (by omega)).trans q2)), q3, yr_f2_t q4 ⟨fun a' g1 g2 => (rw_n (by omega)).trans ((rw_n (by omega)).trans (rw_n (by omega))), fun q g => (pn_o (by omega)).trans ((pn_o (by omega)).trans (pn_o (by omega))), fun _ _ _ => rfl⟩⟩, ?_⟩
    · by_cases c : k = i
      · subst c
        exact ⟨(pn_o (by omega)).trans ((pn_o (by omega)).trans (pn_e ⟨rfl, rfl⟩)), (pn_o (by omega)).trans (pn_e ⟨rfl, rfl⟩), pn_e ⟨rfl, rfl⟩⟩
      · simp (disch := omega) only [pn_o]
        exact q1 k (by omega)
    · show f_X12_runs_L12 _ (fu + 1) _ _ = f_X12_runs_L12 _ fu _ _
      rw [f_X12_runs_L12, if_neg (show ¬ (100 : Int32) ≤ nI i from nI_ge (b := 100) hi (by omega)), show ∀ q, ya_wI σ 90 100 (nI i) q = some (ya_sI σ 90 i q) from fun q => pn_wI (by omega) (by omega), pb_s, show ∀ σ q, ya_wI σ 94 100 (nI i) q = some (ya_sI σ 94 i q) from fun σ q => pn_wI (by omega) (by omega), pb_s, show ∀ σ q, ya_wI σ 95 100 (nI i) q = some (ya_sI σ 95 i q) from fun σ q => pn_wI (by omega) (by omega), pb_s, nI_1]
      rfl
/-- the class's year and the reference's, from one seed -/
theorem yr_run (hC : pm_C d 24 M) (h : ys e M M') (ha : 42 ≤ a) {S : Nat} (hS : S < 2 ^ 31) :
    ∃ (d' e' : ya_D), (∃ (l' g' : Nat → Nat → Nat) (p' : Nat → Nat), yr_D M a (M 0 1) l' g' p' d' e') ∧ yr_f1 a d d' ∧ yr_f2 e e' ∧ f_X10_run a 24 (nI S) d = some d' ∧ f_X12_runs (lN S) e = some e' := by
  obtain ⟨⟨b0, b1, b2, b3, b4, b5⟩, w1, w2, w3, -, w5⟩ := pk_w h.2.1
  obtain ⟨d1, ⟨A1, A2, A3, A4, A5, A6⟩, A7⟩ := yr_forget (d := d) ha (nI S)
  obtain ⟨e1, ⟨B1, B2, B3, B4, B5, B6⟩, B7⟩ := yr_refinit (e := e) (lN S)
  obtain ⟨d2, e2, ⟨l', g', p', C1, C2, C3⟩, C4, C5⟩ := yr_days (yr_f1_C ha A6 hC) (yr_f2_s B6 h) (l := fun _ _ => 0) (g := fun _ _ => 0) (p := fun _ => 0) ha
    ⟨⟨fun s c hs hc => absurd hc (Nat.not_lt_zero _), fun s c hs hc => (B1 _ (by omega)).1, fun s hs => by rw [(A2 s (by omega)).1, pn_sum_0 _ (fun _ _ => rfl)], fun _ _ => Nat.zero_le _, fun _ _ _ _ => rfl, fun _ _ _ _ => rfl⟩, ⟨fun s t hs ht => ⟨(A1 _ (by omega)).2, (B1 _ (by omega)).2.1⟩, fun s hs => by rw [(A2 s (by omega)).2.1, pn_sum_0 _ (fun _ _ => rfl)], fun _ _ => Nat.zero_le _, fun _ _ _ _ => rfl⟩, fun s hs => by rw [(A2 s (by omega)).2.2.1, (B2 s (by omega)).1], fun s hs => by rw [(A2 s (by omega)).2.2.2, (B2 s (by omega)).2], fun k hk => by rw [(A1 k hk).1, (B1 k hk).2.2.2], ⟨fun b hb => by rw [(A3 b (by omega)).1, (B3 b (by omega)).1], fun b hb => ⟨(A3 b (by omega)).2, (B3 b (by omega)).2⟩, by rw [A4, B4], by rw [A5, B5, nI_l hS], S, hS, by rw [A5, nI_l hS]⟩, fun _ _ _ _ hk => absurd hk (Nat.not_lt_zero _), fun _ _ _ hk => absurd hk (Nat.not_lt_zero _), fun b hb => Nat.zero_le _⟩
  exact ⟨d2, e2, ⟨l', g', p', C1⟩, yr_f1_t A6 C2, yr_f2_t B6 C3, A7.trans C4, B7.trans C5⟩
end
