/-! The year: its days -/
section
variable {d e : ya_D} {M M' : pm_M} {a : Nat}
theorem yr_L_U {U U' : Nat → Nat} {l : Nat → Nat → Nat} (h : yr_L M a U l d e) (q : ∀ s, s < M 0 4 → U' s = U s) : yr_L M a U' l d e := by
  obtain ⟨h1, h2, h3, h4, h5, h6⟩ := h
  exact ⟨fun s c hs hc => h1 s c hs (by rw [← q s hs]; exact hc), h2, h3, h4, fun s c hs hc => h5 s c hs (by rw [← q s hs]; exact hc), fun s c hs hc => h6 s c hs (by rw [← q s hs]; exact hc)⟩
theorem yr_G_T {T T' : Nat → Nat} {g : Nat → Nat → Nat} (h : yr_G M a T g d e) (q : ∀ s, s < M 0 4 → T s ≤ T' s) : yr_G M a T' g d e :=
  ⟨h.1, h.2.1, h.2.2.1, fun s t hs ht => h.2.2.2 s t hs (Nat.le_trans (q s hs) ht)⟩
theorem yr_C_K {K K' : Nat → Nat → Prop} (h : yr_C M a K d e) (q : ∀ x t, x < M 0 3 → t < M 0 1 → K' x t → K x t) : yr_C M a K' d e := fun x t hx ht hk => h x t hx ht (q x t hx ht hk)
theorem yr_C_c {K : Nat → Nat → Prop} {d' e' : ya_D} (h : yr_C M a K d e) (q1 : d'.1 (a + 1) = d.1 (a + 1)) (q2 : d'.1 (a + 2) = d.1 (a + 2)) (q3 : d'.1 (a + 3) = d.1 (a + 3)) (q4 : e'.1 91 = e.1 91) (q5 : e'.1 92 = e.1 92) (q6 : e'.1 93 = e.1 93) : yr_C M a K d' e' := by
  unfold yr_C
  rw [q1, q2, q3, q4, q5, q6]
  exact h
theorem yr_P_c {p : Nat → Nat} {d' e' : ya_D} (h : yr_P M a p d e) (q1 : d'.1 (a + 12) = d.1 (a + 12)) (q2 : d'.1 (a + 13) = d.1 (a + 13)) (q3 : d'.1 a = d.1 a) (q4 : d'.2 = d.2) (q5 : e'.1 98 = e.1 98) (q6 : e'.1 99 = e.1 99) (q7 : e'.1 83 = e.1 83) (q8 : e'.2 = e.2) : yr_P M a p d' e' := by
  unfold yr_P
  rw [q1, q2, q3, q4, q5, q6, q7, q8]
  exact h
/-- behind day t - 1 -/
def yr_D (M : pm_M) (a t : Nat) (l g : Nat → Nat → Nat) (p : Nat → Nat) (d e : ya_D) : Prop :=
  yr_L M a (fun _ => t) l d e ∧ yr_G M a (fun _ => t) g d e ∧ (∀ s, s < M 0 4 → d.1 (a + 10) s = e.1 96 s) ∧ (∀ s, s < M 0 4 → d.1 (a + 11) s = e.1 97 s) ∧ (∀ k, k < 100 → d.1 (a + 4) k = e.1 100 k) ∧ yr_P M a p d e ∧ yr_C M a (fun _ t' => t' < t) d e ∧ (∀ s t', s < M 0 4 → t' < t → d.1 (a + 6) (20 * s + t') = e.1 95 (20 * s + t')) ∧ (∀ b, b < M 0 5 → p b ≤ pn_sum (fun t' => if pm_co M (M 9 b) t' (M 2 (20 * M 9 b + t')) b then M 10 b else 0) t)
/-- all sellers begin day t -/
theorem yr_begins (hC : pm_C d 24 M) (h : ys e M M') {t : Nat} {l : Nat → Nat → Nat} (ha : 42 ≤ a) (ht : t < M 0 1) (hL : yr_L M a (fun _ => t) l d e) (hO : ∀ s, s < M 0 4 → d.1 (a + 11) s = e.1 97 s) (hP : ∀ k, k < 100 → d.1 (a + 4) k = e.1 100 k) (k : ya_D → Option ya_D) :
    ∃ (d' e' : ya_D) (l' : Nat → Nat → Nat), (yr_L M a (fun _ => t + 1) l' d' e' ∧ (∀ s, s < M 0 4 → d'.1 (a + 11) s = e'.1 97 s) ∧ (∀ k, k < 100 → d'.1 (a + 4) k = e'.1 100 k) ∧ (∀ a', a' ≠ a + 4 → a' ≠ a + 7 → a' ≠ a + 8 → a' ≠ a + 11 → d'.1 a' = d.1 a') ∧ d'.2 = d.2 ∧ (∀ a', a' ≠ 90 → a' ≠ 97 → a' ≠ 100 → e'.1 a' = e.1 a') ∧ e'.2 = e.2) ∧ f_X10_run_L23 a 24 (nI t) k ya_F (nI 0) d = k d' ∧ f_X12_spoilsIn (nI t) e = some e' := by
  obtain ⟨⟨b0, b1, b2, b3, b4, b5⟩, w1, w2, w3, -, w5⟩ := pk_w h.2.1
  unfold f_X12_spoilsIn
  have key := pq_lp2 (G := fun fu i (d : ya_D) => f_X10_run_L23 a 24 (nI t) k fu (nI i) d) (E := k) (G' := fun fu i (e : ya_D) => f_X12_spoilsIn_L2 (nI t) fu (nI i) e) (E' := some) (n := M 0 4)
    (I := fun i d' e' => ∃ l' : Nat → Nat → Nat, yr_L M a (fun s => if s < i then t + 1 else t) l' d' e' ∧ (∀ s, s < M 0 4 → d'.1 (a + 11) s = e'.1 97 s) ∧ (∀ k, k < 100 → d'.1 (a + 4) k = e'.1 100 k) ∧ (∀ a', a' ≠ a + 4 → a' ≠ a + 7 → a' ≠ a + 8 → a' ≠ a + 11 → d'.1 a' = d.1 a') ∧ d'.2 = d.2 ∧ (∀ a', a' ≠ 90 → a' ≠ 97 → a' ≠ 100 → e'.1 a' = e.1 a') ∧ e'.2 = e.2)
    (Q := fun d' e' => ∃ l' : Nat → Nat → Nat, yr_L M a (fun _ => t + 1) l' d' e' ∧ (∀ s, s < M 0 4 → d'.1 (a + 11) s = e'.1 97 s) ∧ (∀ k, k < 100 → d'.1 (a + 4) k = e'.1 100 k) ∧ (∀ a', a' ≠ a + 4 → a' ≠ a + 7 → a' ≠ a + 8 → a' ≠ a + 11 → d'.1 a' = d.1 a') ∧ d'.2 = d.2 ∧ (∀ a', a' ≠ 90 → a' ≠ 97 → a' ≠ 100 → e'.1 a' = e.1 a') ∧ e'.2 = e.2)
    (fun fu d' e' hI => ?_) (fun fu i d' e' hi hI => ?_) ya_F 0 d e (by omega) (by unfold ya_F; omega) ⟨l, yr_L_U hL (fun s hs => if_neg (by omega)), hO, hP, fun _ _ _ _ _ => rfl, rfl, fun _ _ _ _ => rfl, rfl⟩
  · obtain ⟨d', e', ⟨l', q⟩, k1, k2⟩ := key
    refine ⟨d', e', l', q, k1, ?_⟩
    rw [pl_0]; exact k2
  · obtain ⟨l', q1, q2, q3, q4, q5, q6, q7⟩ := hI
    refine ⟨d', e', ⟨l', yr_L_U q1 (fun s hs => (if_pos hs).symm), q2, q3, q4, q5, q6, q7⟩, ?_, ?_⟩
    · show f_X10_run_L23 _ _ _ _ (fu + 1) _ _ = _
      have c4 : d'.1 30 0 = nI (M 0 4) := by rw [q4 30 (by omega) (by omega) (by omega) (by omega)]; exact (pk_c hC).2.2.2.2.1
      rw [f_X10_run_L23, c4, if_pos (nI_le (Nat.le_refl _) (by omega))]
    · show f_X12_spoilsIn_L2 _ (fu + 1) _ _ = _
      have r2 := (ys_n (ys_c h (q6 84 (by decide) (by decide) (by decide)))).2.2.1
      rw [f_X12_spoilsIn_L2]
      simp (disch := omega) only [pl_0, pl_1, pl_2, pl_3, pl_4, pl_5, pl_6, pl_7, pl_8, pl_9, pl_10, pl_11, pl_12, pl_20, pl_24, pl_30, pl_31, pl_60, pl_99, pl_100, pl_111, pl_211, pl_311, pl_326, pl_400, pl_426, pb_s, ya_b2s, pj_0, pj_1, pj_2, pj_3, pb_pI, pb_pL, pm_cell1, pm_cell2, nI_add, pn_mul, pn_sub, pn_rI, pn_wI, pn_eq, pn_le, pn_lt, pm_min, pn_o, pn_e, pn_sI2, Nat.zero_add, Nat.add_zero, r2, Nat.le_refl, if_true]
  · obtain ⟨l', ⟨L1, L2, L3, L4, L5, L6⟩, q2, q3, q4, q5, q6, q7⟩ := hI
    dsimp only at L1 L5 L6
    have hC' : pm_C d' 24 M := pm_C_c hC (fun a' k h1 h2 => by rw [q4 a' (by omega) (by omega) (by omega) (by omega)])
    have h' : ys e' M M' := ys_c h (q6 84 (by decide) (by decide) (by decide))
    have c4 : d'.1 30 0 = nI (M 0 4) := (pk_c hC').2.2.2.2.1
    have r2 := (ys_n h').2.2.1
    have h3 := w3 i hi
    have hU : (if i < i then t + 1 else t) = t := if_neg (by omega)
    obtain ⟨d1, A1, A2, A3, A4, A5, A6, A7, A8, A9, A10, A11⟩ := yr_cbegin (l := l' i) hC' h.2.1 ha hi ht (fun c hc => L1 i c hi (by rw [hU]; exact hc)) (L3 i hi) (L4 i) (L5 i t hi (by rw [hU]; omega)) (fun c hc => L6 i c hi (by rw [hU]; exact hc))
    obtain ⟨e1, ⟨B1, B2, B3, B4, B5, B6, B7, B8⟩, B9⟩ := yr_refspoil (l := l' i) h' hi ht (fun c hc => L2 i c hi hc) (fun d_92 => (f_X12_at (nI i) (nI t)).bind fun x98 => (f_X12_comesTo (nI i) (nI t) d_92).bind fun x104 => (ya_wI d_92 90 100 x98 x104).bind fun d107 => f_X12_spoilsIn_L2 (nI t) fu (nI i + 1) d107)
    have hcm := pm_cm_le h.2.1 hi ht
    refine ⟨d1, ya_sI e1 90 (20 * i + t) (nI (pm_cm M i t)), ⟨fun s => if s = i then pv_bg M i t (l' i) else l' s, ⟨fun s c hs hc => ?_, fun s c hs hc => ?_, fun s hs => ?_, fun s c => ?_, fun s c hs hc => ?_, fun s c hs hc => ?_⟩, fun s hs => ?_, fun k hk => ?_, fun a' g1 g2 g3 g4 => (A9 a' g1 g2 g3 g4).trans (q4 a' g1 g2 g3 g4), A10.trans q5, fun a' g1 g2 g3 => (rw_n g1).trans ((B7 a' g1 g2 g3).trans (q6 a' g1 g2 g3)), B8.trans q7⟩, ?_, ?_⟩
    · dsimp only at hc ⊢
      by_cases q : s = i
      · subst q
        rw [if_pos (by omega)] at hc
        rw [if_pos rfl]
        exact A1 c (by omega)
      · rw [if_neg q, A2 _ (by split at hc <;> omega)]
        refine L1 s c hs ?_
        split at hc
        · rw [if_pos (by omega)]; exact hc
        · rw [if_neg (by omega)]; exact hc
    · dsimp only
      by_cases q : s = i
      · subst q
        rw [if_pos rfl]
        unfold pv_bg
        by_cases q2 : c = t
        · rw [if_pos q2, q2]; exact pn_e ⟨rfl, rfl⟩
        · rw [if_neg q2]
          exact (pn_o (by omega)).trans (B1 c hc)
      · rw [if_neg q]
        exact (pn_o (by omega)).trans ((B2 _ (by omega)).trans (L2 s c hs hc))
    · dsimp only
      by_cases q : s = i
      · subst q
        rw [if_pos rfl]; exact A3
      · rw [if_neg q, A4 s q]; exact L3 s hs
    · dsimp only
      by_cases q : s = i
      · rw [if_pos q]
        unfold pv_bg
        split
        · exact hcm
        · split
          · omega
          · exact L4 i c
      · rw [if_neg q]; exact L4 s c
    · dsimp only at hc ⊢
      by_cases q : s = i
      · subst q
        rw [if_pos (by omega)] at hc
        rw [if_pos rfl]
        unfold pv_bg
        rw [if_neg (by omega), if_neg (by omega)]
        exact L5 s c hs (by rw [hU]; omega)
      · rw [if_neg q]
        refine L5 s c hs ?_
        split at hc
        · rw [if_pos (by omega)]; exact hc
        · rw [if_neg (by omega)]; exact hc
    · dsimp only at hc ⊢
      by_cases q : s = i
      · subst q
        rw [if_pos (by omega)] at hc
        rw [if_pos rfl]
        unfold pv_bg
        rw [if_neg (by omega), if_pos (by omega)]
      · rw [if_neg q]
        refine L6 s c hs ?_
        split at hc
        · rw [if_pos (by omega)]; exact hc
        · rw [if_neg (by omega)]; exact hc
    · by_cases q : s = i
      · subst q
        rw [A5, rw_n (by decide), B3, q2 s hs]
      · rw [A6 s q, rw_n (by decide), B4 s q]; exact q2 s hs
    · by_cases q : k = 20 * M 5 i + t
      · rw [q, A7, rw_n (by decide), B5, q3 _ (by omega)]
      · rw [A8 k q, rw_n (by decide), B6 k q]; exact q3 k hk
    · show f_X10_run_L23 _ _ _ _ (fu + 1) _ _ = f_X10_run_L23 _ _ _ _ fu _ _
      rw [f_X10_run_L23, c4, if_neg (nI_ge hi (by omega)), A11, Option.bind_some, nI_1]
    · show f_X12_spoilsIn_L2 _ (fu + 1) _ _ = f_X12_spoilsIn_L2 _ fu _ _
      have hq1 : f_X12_comesTo (nI i) (nI t) e1 = some (nI (pm_cm M i t)) := ys_coming (ys_c h' (B7 84 (by decide) (by decide) (by decide))) hi ht
      rw [f_X12_spoilsIn_L2, pl_2, pn_rI (by omega) (by omega), r2, pb_s, if_neg (nI_ge hi (by omega)), pl_0, B9]
      simp (disch := omega) only [pl_0, pl_1, pl_2, pl_3, pl_4, pl_5, pl_6, pl_7, pl_8, pl_9, pl_10, pl_11, pl_12, pl_20, pl_24, pl_30, pl_31, pl_60, pl_99, pl_100, pl_111, pl_211, pl_311, pl_326, pl_400, pl_426, pb_s, ya_b2s, pj_0, pj_1, pj_2, pj_3, pb_pI, pb_pL, pm_cell1, pm_cell2, nI_add, pn_mul, pn_sub, pn_rI, pn_wI, pn_eq, pn_le, pn_lt, pm_min, pn_o, pn_e, pn_sI2, Nat.zero_add, Nat.add_zero, hq1]
/-- all things are traded on day t -/
theorem yr_trades (hC : pm_C d 24 M) (h : ys e M M') {t : Nat} {l g : Nat → Nat → Nat} {p : Nat → Nat} (ha : 42 ≤ a) (ht : t < M 0 1) (hL : yr_L M a (fun _ => t + 1) l d e) (hG : yr_G M a (fun _ => t) g d e) (hS : ∀ s, s < M 0 4 → d.1 (a + 10) s = e.1 96 s) (hP : yr_P M a p d e) (hK : yr_C M a (fun _ t' => t' < t) d e) (k k' : ya_D → Option ya_D) :
    ∃ (d' e' : ya_D), (∃ (l' g' : Nat → Nat → Nat) (p' : Nat → Nat), yr_L M a (fun _ => t + 1) l' d' e' ∧ yr_G M a (fun _ => t + 1) g' d' e' ∧ (∀ s, s < M 0 4 → d'.1 (a + 10) s = e'.1 96 s) ∧ yr_P M a p' d' e' ∧ yr_C M a (fun _ t' => t' < t + 1) d' e' ∧ (∀ b, b < M 0 5 → p' b ≤ p b + if pm_co M (M 9 b) t (M 2 (20 * M 9 b + t)) b then M 10 b else 0) ∧ yr_f1 a d d' ∧ yr_f2 e e' ∧ d'.1 (a + 4) = d.1 (a + 4) ∧ d'.1 (a + 6) = d.1 (a + 6) ∧ d'.1 (a + 11) = d.1 (a + 11) ∧ e'.1 95 = e.1 95 ∧ e'.1 97 = e.1 97 ∧ e'.1 100 = e.1 100) ∧ f_X10_run_L52 a 24 (nI t) k ya_F (nI 0) d = k d' ∧ f_X12_runs_L141 (nI t) k' ya_F (nI 0) e = k' e' := by
  obtain ⟨⟨b0, b1, b2, b3, b4, b5⟩, w1, w2, w3, -, w5⟩ := pk_w h.2.1
  refine pq_lp2 (G := fun fu i (d : ya_D) => f_X10_run_L52 a 24 (nI t) k fu (nI i) d) (E := k) (G' := fun fu i (e : ya_D) => f_X12_runs_L141 (nI t) k' fu (nI i) e) (E' := k') (n := M 0 3)
    (I := fun i d' e' => ∃ (l' g' : Nat → Nat → Nat) (p' : Nat → Nat), yr_L M a (fun _ => t + 1) l' d' e' ∧ yr_G M a (fun s => if M 5 s < i then t + 1 else t) g' d' e' ∧ (∀ s, s < M 0 4 → d'.1 (a + 10) s = e'.1 96 s) ∧ yr_P M a p' d' e' ∧ yr_C M a (fun x' t' => t' < t ∨ (t' = t ∧ x' < i)) d' e' ∧ (∀ b, b < M 0 5 → p' b ≤ p b + if M 9 b < i ∧ pm_co M (M 9 b) t (M 2 (20 * M 9 b + t)) b then M 10 b else 0) ∧ yr_f1 a d d' ∧ yr_f2 e e' ∧ d'.1 (a + 4) = d.1 (a + 4) ∧ d'.1 (a + 6) = d.1 (a + 6) ∧ d'.1 (a + 11) = d.1 (a + 11) ∧ e'.1 95 = e.1 95 ∧ e'.1 97 = e.1 97 ∧ e'.1 100 = e.1 100)
    (fun fu d' e' hI => ?_) (fun fu i d' e' hi hI => ?_) ya_F 0 d e (by omega) (by unfold ya_F; omega) ⟨l, g, p, hL, yr_G_T hG (fun s hs => by rw [if_neg (by omega)]; exact Nat.le_refl _), hS, hP, yr_C_K hK (fun x t' _ _ q => by omega), fun b hb => by omega, ⟨fun _ _ => rfl, fun _ _ _ => rfl, fun _ _ _ => rfl⟩, ⟨fun _ _ _ => rfl, fun _ _ => rfl, fun _ _ _ => rfl⟩, rfl, rfl, rfl, rfl, rfl, rfl⟩
  · obtain ⟨l', g', p', q1, q2, q3, q4, q5, q6, q7, q8, q9⟩ := hI
    refine ⟨d', e', ⟨l', g', p', q1, yr_G_T q2 (fun s hs => by split <;> omega), q3, q4, yr_C_K q5 (fun x t' hx _ q => by omega), fun b hb => ?_, q7, q8, q9⟩, ?_, ?_⟩
    · have := q6 b hb
      have h9 := w5 b hb
      by_cases c : pm_co M (M 9 b) t (M 2 (20 * M 9 b + t)) b
      · rw [if_pos ⟨h9.1, c⟩] at this
        rw [if_pos c]; exact this
      · rw [if_neg (fun q => c q.2)] at this
        rw [if_neg c]; exact this
    · show f_X10_run_L52 _ _ _ _ (fu + 1) _ _ = _
      rw [f_X10_run_L52, (pk_c (yr_f1_C ha q7 hC)).2.2.2.1, if_pos (nI_le (Nat.le_refl _) (by omega))]
    · show f_X12_runs_L141 _ _ (fu + 1) _ _ = _
      have r1 := (ys_n (yr_f2_s q8 h)).2.1
      rw [f_X12_runs_L141]
      simp (disch := omega) only [pl_0, pl_1, pl_2, pl_3, pl_4, pl_5, pl_6, pl_7, pl_8, pl_9, pl_10, pl_11, pl_12, pl_20, pl_24, pl_30, pl_31, pl_60, pl_99, pl_100, pl_111, pl_211, pl_311, pl_326, pl_400, pl_426, pb_s, ya_b2s, pj_0, pj_1, pj_2, pj_3, pb_pI, pb_pL, pm_cell1, pm_cell2, nI_add, pn_mul, pn_sub, pn_rI, pn_wI, pn_eq, pn_le, pn_lt, pm_min, pn_o, pn_e, pn_sI2, Nat.zero_add, Nat.add_zero, r1, Nat.le_refl, if_true]
  · obtain ⟨l', g', p', q1, q2, q3, q4, q5, q6, q7, q8, q9, q10, q11, q12, q13, q14⟩ := hI
    obtain ⟨d1, e1, l1, g1, p1, A1, A2, A3, A4, A5, A6, A7, A8, A9, A10, A11, A12, A13, A14, A15, A16⟩ := yr_trade (yr_f1_C ha q7 hC) (yr_f2_s q8 h) ha hi ht q1 q2 (fun s hs => by rw [if_neg (by omega)]; exact Nat.le_refl _) q3 q4 q5
    refine ⟨d1, e1, ⟨l1, g1, p1, A1, yr_G_T A2 (fun s hs => ?_), A3, A4, yr_C_K A5 (fun x t' _ _ q => ?_), fun b hb => ?_, yr_f1_t q7 A7, yr_f2_t q8 A8, A9.trans q9, A10.trans q10, A11.trans q11, A12.trans q12, A13.trans q13, A14.trans q14⟩, ?_, ?_⟩
    · by_cases c : M 5 s = i
      · rw [if_pos c, if_pos (by omega)]; exact Nat.le_refl _
      · rw [if_neg c]
        by_cases c2 : M 5 s < i
        · rw [if_pos c2, if_pos (by omega)]; exact Nat.le_refl _
        · rw [if_neg c2, if_neg (by omega)]; exact Nat.le_refl _
    · omega
    · have h6 := q6 b hb
      have h7 := A6 b hb
      by_cases c : M 9 b = i
      · rw [if_neg (by omega)] at h6
        by_cases c2 : pm_co M i t (M 2 (20 * i + t)) b
        · rw [if_pos c2] at h7
          rw [if_pos (by rw [c]; exact ⟨by omega, c2⟩)]; omega
        · rw [if_neg c2] at h7
          rw [if_neg (by rw [c]; exact fun q => c2 q.2)]; omega
      · rw [if_neg (fun q => c q.1)] at h7
        by_cases c2 : M 9 b < i ∧ pm_co M (M 9 b) t (M 2 (20 * M 9 b + t)) b
        · rw [if_pos c2] at h6
          rw [if_pos ⟨by omega, c2.2⟩]; omega
        · rw [if_neg c2] at h6
          rw [if_neg (fun q => c2 ⟨by omega, q.2⟩)]; omega
    · show f_X10_run_L52 _ _ _ _ (fu + 1) _ _ = f_X10_run_L52 _ _ _ _ fu _ _
      rw [f_X10_run_L52, (pk_c (yr_f1_C ha q7 hC)).2.2.2.1, if_neg (nI_ge hi (by omega)), A15, Option.bind_some, nI_1]
    · show f_X12_runs_L141 _ _ (fu + 1) _ _ = f_X12_runs_L141 _ _ fu _ _
      have r1 := (ys_n (yr_f2_s q8 h)).2.1
      rw [f_X12_runs_L141, pl_1, pn_rI (by omega) (by omega), r1, pb_s, if_neg (nI_ge hi (by omega)), A16, Option.bind_some, nI_add]
/-- behind day t: stock -/
theorem yr_stocks (hC : pm_C d 24 M) (h : ys e M M') {t : Nat} {l : Nat → Nat → Nat} (ha : 42 ≤ a) (ht : t < M 0 1) (hL : yr_L M a (fun _ => t + 1) l d e) (hT : ∀ s t', s < M 0 4 → t' < t → d.1 (a + 6) (20 * s + t') = e.1 95 (20 * s + t')) (k k' : ya_D → Option ya_D) :
    ∃ (d' e' : ya_D), ((∀ s t', s < M 0 4 → t' < t + 1 → d'.1 (a + 6) (20 * s + t') = e'.1 95 (20 * s + t')) ∧ (∀ a', a' ≠ a + 6 → d'.1 a' = d.1 a') ∧ d'.2 = d.2 ∧ (∀ a', a' ≠ 95 → e'.1 a' = e.1 a') ∧ e'.2 = e.2) ∧ f_X10_run_L81 a 24 (nI t) k ya_F (nI 0) d = k d' ∧ f_X12_runs_L168 (nI t) k' ya_F (nI 0) e = k' e' := by
  obtain ⟨⟨b0, b1, b2, b3, b4, b5⟩, w1, w2, w3, -, w5⟩ := pk_w h.2.1
  obtain ⟨L1, L2, L3, L4, L5, L6⟩ := hL
  refine pq_lp2 (G := fun fu i (d : ya_D) => f_X10_run_L81 a 24 (nI t) k fu (nI i) d) (E := k) (G' := fun fu i (e : ya_D) => f_X12_runs_L168 (nI t) k' fu (nI i) e) (E' := k') (n := M 0 4)
    (I := fun i d' e' => (∀ s t', s < M 0 4 → (t' < t ∨ (t' = t ∧ s < i)) → d'.1 (a + 6) (20 * s + t') = e'.1 95 (20 * s + t')) ∧ (∀ a', a' ≠ a + 6 → d'.1 a' = d.1 a') ∧ d'.2 = d.2 ∧ (∀ a', a' ≠ 95 → e'.1 a' = e.1 a') ∧ e'.2 = e.2)
    (fun fu d' e' hI => ?_) (fun fu i d' e' hi hI => ?_) ya_F 0 d e (by omega) (by unfold ya_F; omega) ⟨fun s t' hs q => hT s t' hs (by omega), fun _ _ => rfl, rfl, fun _ _ => rfl, rfl⟩
  · obtain ⟨q1, q2, q3, q4, q5⟩ := hI
    refine ⟨d', e', ⟨fun s t' hs q => q1 s t' hs (by omega), q2, q3, q4, q5⟩, ?_, ?_⟩
    · show f_X10_run_L81 _ _ _ _ (fu + 1) _ _ = _
      have c4 : d'.1 30 0 = nI (M 0 4) := by rw [q2 30 (by omega)]; exact (pk_c hC).2.2.2.2.1
      rw [f_X10_run_L81, c4, if_pos (nI_le (Nat.le_refl _) (by omega))]
    · show f_X12_runs_L168 _ _ (fu + 1) _ _ = _
      have r2 := (ys_n (ys_c h (q4 84 (by decide)))).2.2.1
      rw [f_X12_runs_L168]
      simp (disch := omega) only [pl_0, pl_1, pl_2, pl_3, pl_4, pl_5, pl_6, pl_7, pl_8, pl_9, pl_10, pl_11, pl_12, pl_20, pl_24, pl_30, pl_31, pl_60, pl_99, pl_100, pl_111, pl_211, pl_311, pl_326, pl_400, pl_426, pb_s, ya_b2s, pj_0, pj_1, pj_2, pj_3, pb_pI, pb_pL, pm_cell1, pm_cell2, nI_add, pn_mul, pn_sub, pn_rI, pn_wI, pn_eq, pn_le, pn_lt, pm_min, pn_o, pn_e, pn_sI2, Nat.zero_add, Nat.add_zero, r2, Nat.le_refl, if_true]
  · obtain ⟨q1, q2, q3, q4, q5⟩ := hI
    have h' := ys_c h (q4 84 (by decide))
    have r2 := (ys_n h').2.2.1
    have c4 : d'.1 30 0 = nI (M 0 4) := by rw [q2 30 (by omega)]; exact (pk_c hC).2.2.2.2.1
    have h8 : d'.1 (a + 8) i = nI (pn_sum (l i) (M 0 1)) := by rw [q2 _ (by omega)]; exact L3 i hi
    have hst := ys_stock (l := l i) h' hi (fun c hc => by rw [q4 90 (by decide)]; exact L2 i c hi hc)
    refine ⟨ya_sI d' (a + 6) (20 * i + t) (nI (pn_sum (l i) (M 0 1))), ya_sI e' 95 (20 * i + t) (nI (pn_sum (l i) (M 0 1))), ⟨fun s t' hs q => ?_, fun a' g => (rw_n g).trans (q2 a' g), q3, fun a' g => (rw_n g).trans (q4 a' g), q5⟩, ?_, ?_⟩
    · by_cases c : 20 * s + t' = 20 * i + t
      · rw [c, pn_e ⟨rfl, rfl⟩, pn_e ⟨rfl, rfl⟩]
      · rw [pn_o (by omega), pn_o (by omega)]
        exact q1 s t' hs (by omega)
    · show f_X10_run_L81 _ _ _ _ (fu + 1) _ _ = f_X10_run_L81 _ _ _ _ fu _ _
      rw [f_X10_run_L81, c4, if_neg (nI_ge hi (by omega))]
      simp (disch := omega) only [pl_0, pl_1, pl_2, pl_3, pl_4, pl_5, pl_6, pl_7, pl_8, pl_9, pl_10, pl_11, pl_12, pl_20, pl_24, pl_30, pl_31, pl_60, pl_99, pl_100, pl_111, pl_211, pl_311, pl_326, pl_400, pl_426, pb_s, ya_b2s, pj_0, pj_1, pj_2, pj_3, pb_pI, pb_pL, pm_cell1, pm_cell2, nI_add, pn_mul, pn_sub, pn_rI, pn_wI, pn_eq, pn_le, pn_lt, pm_min, pn_o, pn_e, pn_sI2, Nat.zero_add, Nat.add_zero, h8]
    · show f_X12_runs_L168 _ _ (fu + 1) _ _ = f_X12_runs_L168 _ _ fu _ _
      rw [f_X12_runs_L168]
      simp (disch := omega) only [pl_0, pl_1, pl_2, pl_3, pl_4, pl_5, pl_6, pl_7, pl_8, pl_9, pl_10, pl_11, pl_12, pl_20, pl_24, pl_30, pl_31, pl_60, pl_99, pl_100, pl_111, pl_211, pl_311, pl_326, pl_400, pl_426, pb_s, ya_b2s, pj_0, pj_1, pj_2, pj_3, pb_pI, pb_pL, pm_cell1, pm_cell2, nI_add, pn_mul, pn_sub, pn_rI, pn_wI, pn_eq, pn_le, pn_lt, pm_min, pn_o, pn_e, pn_sI2, Nat.zero_add, Nat.add_zero, r2, if_neg (Nat.not_le.mpr hi), hst]
end
