/-! asks, poor -/
theorem pn_nle {x y : Int32} : ¬ x ≤ y ↔ y < x := by
  rw [Int32.le_iff_toInt_le, Int32.lt_iff_toInt_lt]; omega
section
variable {d e : ya_D} {M M' : pm_M}
theorem pv_sim_t {M0 M1 M2 : pm_M} (h : pv_sim M0 M1) (h' : pv_sim M1 M2) : pv_sim M0 M2 := by
  obtain ⟨h1, h2, h3⟩ := h
  obtain ⟨k1, k2, k3⟩ := h'
  have q : ∀ g j, g ≠ 4 → g ≠ 7 → g ≠ 11 → M1 g j = M0 g j := h1
  refine ⟨fun g j a b c => (k1 g j a b c).trans (h1 g j a b c), fun s t hs ht => ?_, fun b t hb h12 h13 => ?_⟩
  · have k := k2 s t (by rw [q 0 4 (by decide) (by decide) (by decide)]; exact hs) (by rw [q 0 1 (by decide) (by decide) (by decide)]; exact ht)
    rw [q 5 s (by decide) (by decide) (by decide), q 2 _ (by decide) (by decide) (by decide)] at k
    exact k.trans (h2 s t hs ht)
  · have k := k3 b t (by rw [q 0 5 (by decide) (by decide) (by decide)]; exact hb) (by rw [q 12 b (by decide) (by decide) (by decide)]; exact h12) (by rw [q 13 b (by decide) (by decide) (by decide)]; exact h13)
    rw [q 9 b (by decide) (by decide) (by decide), q 2 _ (by decide) (by decide) (by decide)] at k
    exact k.trans (h3 b t hb h12 h13)
theorem ys_t {M0 M1 : pm_M} (hW : pm_W M0) (h : pv_sim M0 M1) (he : ys e M1 M') : ys e M0 M' := ⟨he.1, hW, he.2.2.1, pv_sim_t h he.2.2.2⟩
/-- asking x or y makes no difference where no price parts them -/
theorem pv_sim_asks {s x y : Nat} (h : ∀ t, t < M 0 1 → (x ≤ M 2 (20 * M 5 s + t) ↔ y ≤ M 2 (20 * M 5 s + t))) : pv_sim (pm_up M 7 s x) (pm_up M 7 s y) := by
  refine ⟨fun g j a b c => ?_, fun s' t hs ht => ?_, fun _ _ _ _ _ => Iff.rfl⟩
  · rw [pm_upn (fun q => absurd q b), pm_upn (fun q => absurd q b)]
  · show pm_up M 7 s y 7 s' ≤ M 2 (20 * M 5 s' + t) ↔ pm_up M 7 s x 7 s' ≤ M 2 (20 * M 5 s' + t)
    by_cases c : s' = s
    · subst c
      rw [pm_upe, pm_upe]; exact (h t ht).symm
    · rw [pm_upn (fun _ => c), pm_upn (fun _ => c)]
/-- all that the reference's runs make of asking x: the seller gets the same -/
def pz_K (M : pm_M) (s x : Nat) (z : Int32) : Prop := ∀ (e : ya_D) (M' : pm_M), ys e (pm_up M 7 s x) M' → ∃ e', f_X12_runs (lN 1) e = some e' ∧ yr_f2 e e' ∧ f_X12_allGets (nI s) e' = some z
theorem pz_K_run {s x : Nat} {d' : ya_D} (hs : s < M 0 4) (hC : pm_C d 24 (pm_up M 7 s x)) (hW : pm_W (pm_up M 7 s x)) (h : f_X10_run 57 24 (nI 1) d = some d') : pz_K M s x (d'.1 66 s) := by
  intro e M' he
  obtain ⟨d2, e2, ⟨l, g, p, A1⟩, A2, A3, A4, A5⟩ := yr_run (a := 57) (S := 1) hC he (by omega) (by omega)
  rw [h] at A4
  cases A4
  refine ⟨e2, A5, A3, ?_⟩
  rw [pz_allGets (yr_f2_s A3 he) A1 hs]
  exact congrArg some (A1.2.1.2.1 s hs).symm
theorem pz_costs {d' : ya_D} (hI : pm_C d 24 M) (hW : pm_W M) (g1 : d'.1 24 = d.1 24) (g2 : d'.1 27 = d.1 27) {x n : Nat} (hx : x < M 0 3) (hn : n < 2 ^ 31) : ∃ r : Int32, f_X11_costsSomeDay (nI x) (nI n) d' = some r ∧ (r = 0 → ∀ t, t < M 0 1 → M 2 (20 * x + t) ≠ n) ∧ (r = 0 ∨ r = 1) := by
  obtain ⟨⟨b0, b1, b2, b3, b4, b5⟩, -, w2, -, -, -⟩ := pk_w hW
  have hc := pk_c hI
  rw [← g1, ← g2] at hc
  unfold f_X11_costsSomeDay
  have key := pq_lp (G := fun fu i (_ : Unit) => f_X11_costsSomeDay_L2 (nI x) (nI n) d' fu (nI i)) (E := some) (n := M 0 1) (I := fun i _ => ∀ t, t < i → M 2 (20 * x + t) ≠ n) (Q := fun r => (r = 0 → ∀ t, t < M 0 1 → M 2 (20 * x + t) ≠ n) ∧ (r = 0 ∨ r = 1)) (fun fu u hI => ?_) (fun fu i u hi hI => ?_) ya_F 0 () (by omega) (by unfold ya_F; omega) (fun t ht => by omega)
  · obtain ⟨r, h1, h2⟩ := key
    exact ⟨r, h2, h1⟩
  · refine ⟨0, ⟨fun _ => hI, Or.inl rfl⟩, ?_⟩
    show f_X11_costsSomeDay_L2 _ _ _ (fu + 1) _ = _
    rw [f_X11_costsSomeDay_L2, hc.2.1, if_pos (nI_le (Nat.le_refl _) (by omega))]
  · have p1 := w2 x i hx hi
    have e1 := (hc.2.2.2.2.2.2.2.1 x i hx hi).1
    by_cases c : M 2 (20 * x + i) = n
    · left
      refine ⟨1, ⟨fun q => absurd q pn_10, Or.inr rfl⟩, ?_⟩
      show f_X11_costsSomeDay_L2 _ _ _ (fu + 1) _ = _
      rw [f_X11_costsSomeDay_L2, hc.2.1, if_neg (nI_ge hi (by omega)), pm_cell1, Option.bind_some, pn_rI (by omega) (by omega), Option.bind_some, e1, if_pos (by rw [c])]
    · right
      refine ⟨(), fun t ht => ?_, ?_⟩
      · by_cases q : t = i
        · rw [q]; exact c
        · exact hI t (by omega)
      · show f_X11_costsSomeDay_L2 _ _ _ (fu + 1) _ = f_X11_costsSomeDay_L2 _ _ _ fu _
        rw [f_X11_costsSomeDay_L2, hc.2.1, if_neg (nI_ge hi (by omega)), pm_cell1, Option.bind_some, pn_rI (by omega) (by omega), Option.bind_some, e1, if_neg (fun q => c ((nI_eq (by omega) hn).mp q)), nI_1]
/-- the class's memory while it tries what to ask; the reference's -/
def pz_a1 (s : Nat) (d d' : ya_D) : Prop := (∀ a', (a' < 57 ∨ 72 ≤ a') → a' ≠ 33 → d'.1 a' = d.1 a') ∧ (∀ q, q ≠ s → d'.1 33 q = d.1 33 q) ∧ (∀ a' k, a' ≠ 57 → d'.2 a' k = d.2 a' k)
def pz_a2 (k : Nat) (e e' : ya_D) : Prop := (∀ a', a' ≠ 83 → a' ≠ 84 → (a' < 90 ∨ 101 < a') → e'.1 a' = e.1 a') ∧ (∀ q, q ≠ k → e'.1 84 q = e.1 84 q) ∧ (∀ q, q ≠ 27 → e'.1 83 q = e.1 83 q) ∧ (∀ a' k, a' ≠ 83 → e'.2 a' k = e.2 a' k)
theorem pz_a1_C {s v : Nat} {d' : ya_D} (hC : pm_C d 24 M) (h : pz_a1 s d d') : pm_C (ya_sI d' 33 s (nI v)) 24 (pm_up M 7 s v) := by
  refine pm_C_c (pm_C_hold (i := s) (v := v) hC) (fun a k h1 h2 => ?_)
  by_cases c : a = 33
  · subst c
    by_cases q : k = s
    · rw [q, pn_e ⟨rfl, rfl⟩, pn_e ⟨rfl, rfl⟩]
    · rw [pn_o (Or.inr q), pn_o (Or.inr q)]; exact h.2.1 k q
  · rw [pn_o (Or.inl c), pn_o (Or.inl c)]; exact congrFun (h.1 a (by omega) c) k
theorem pz_a1_w {s : Nat} {v : Int32} {d' : ya_D} (h : pz_a1 s d d') : pz_a1 s d (ya_sI d' 33 s v) :=
  ⟨fun a' g1 g2 => (rw_n g2).trans (h.1 a' g1 g2), fun q hq => (pn_o (Or.inr hq)).trans (h.2.1 q hq), h.2.2⟩
theorem pz_a1_t {s : Nat} {d' d'' : ya_D} (h : pz_a1 s d d') (f : yr_f1 57 d' d'') : pz_a1 s d d'' :=
  ⟨fun a' g1 g2 => (f.1 a' (by omega)).trans (h.1 a' g1 g2), fun q hq => by rw [f.1 33 (by omega)]; exact h.2.1 q hq, fun a' k g => (f.2.2 a' k (Or.inl g)).trans (h.2.2 a' k g)⟩
theorem pz_a2_w {k : Nat} {v : Int32} {e' : ya_D} (h : pz_a2 k e e') : pz_a2 k e (ya_sI e' 84 k v) :=
  ⟨fun a' g1 g2 g3 => (rw_n g2).trans (h.1 a' g1 g2 g3), fun q hq => (pn_o (Or.inr hq)).trans (h.2.1 q hq), fun q hq => (pn_o (by omega)).trans (h.2.2.1 q hq), h.2.2.2⟩
theorem pz_a2_t {k : Nat} {e' e'' : ya_D} (h : pz_a2 k e e') (f : yr_f2 e' e'') : pz_a2 k e e'' :=
  ⟨fun a' g1 g2 g3 => (f.1 a' g1 g3).trans (h.1 a' g1 g2 g3), fun q hq => by rw [f.1 84 (by omega) (by omega)]; exact h.2.1 q hq, fun q hq => (f.2.1 q hq).trans (h.2.2.1 q hq), fun a' k g => (f.2.2 a' k (Or.inl g)).trans (h.2.2.2 a' k g)⟩
theorem pz_a2_R {s v : Nat} {e' : ya_D} (hJ : pm_J e M) (hs : s < 5) (h : pz_a2 (311 + 3 * s + 1) e e') : pm_R (ya_sI e' 84 (311 + 3 * s + 1) (nI v)) 84 0 (pm_up M 7 s v) := by
  have := pm_R_hold (i := s) (v := v) hs hJ.2 hJ.1
  rw [Nat.zero_add] at this
  refine pm_R_c this (fun q => ?_)
  by_cases c : q = 311 + 3 * s + 1
  · rw [c, pn_e ⟨rfl, rfl⟩, pn_e ⟨rfl, rfl⟩]
  · rw [pn_o (Or.inr c), pn_o (Or.inr c)]; exact h.2.1 q c
theorem pz_setAsks {s v : Nat} (hs : s < 5) (e : ya_D) : f_X12_setAsks (nI s) (nI v) e = some (ya_sI e 84 (311 + 3 * s + 1) (nI v)) := by
  unfold f_X12_setAsks
  simp (disch := omega) only [pl_0, pl_1, pl_2, pl_3, pl_4, pl_5, pl_6, pl_7, pl_8, pl_9, pl_10, pl_11, pl_12, pl_20, pl_24, pl_30, pl_31, pl_60, pl_99, pl_100, pl_111, pl_211, pl_311, pl_326, pl_400, pl_426, pb_s, ya_b2s, pj_0, pj_1, pj_2, pj_3, pb_pI, pb_pL, pm_cell1, pm_cell2, nI_add, pn_mul, pn_sub, pn_rI, pn_wI, pn_eq, pn_le, pn_lt, pm_min, pn_o, pn_e, pn_sI2, Nat.zero_add, Nat.add_zero]
/-- from one class's memory, over any reference's -/
theorem pz_asks0 (hI : pm_I d M) (hJ : pm_J e M) {s : Nat} (hs : s < M 0 4) : ∃ (r : Int32) (d' e' : ya_D), pz_a1 s d d' ∧ d'.1 33 s = d.1 33 s ∧ pz_a2 (311 + 3 * s + 1) e e' ∧ e'.1 84 (311 + 3 * s + 1) = e.1 84 (311 + 3 * s + 1) ∧ f_X11_asks (nI s) d = some (r, d') ∧ f_X12_asks (nI s) e = some (r, e') := by
  have hb := pm_b hI.2.2
  obtain ⟨⟨b0, b1, b2, b3, b4, b5⟩, w1, w2, w3, -, -⟩ := pk_w hI.2.2
  have h3 := w3 s hs
  obtain ⟨c5, c6, c7⟩ := (pk_c hI.1).2.2.2.2.2.2.2.2.1 s hs
  obtain ⟨r5, r6, r7⟩ := (pk_r hJ.1).2.2.2.2.2.2.2.2.1 s hs
  have hWn : ∀ n, n ≤ 99 → pm_W (pm_up M 7 s n) := fun n hn => pm_W_hold hn hI.2.2
  have key := pq_lp2 (G := fun fu i (t : Int32 × Int32 × ya_D) => f_X11_asks_L46 (nI s) (nI (M 7 s)) (nI (M 5 s)) (fun (v5_131 : Int32) (d_131 : ya_D) => (ya_wI d_131 33 5 (nI s) (nI (M 7 s))).bind fun d143 => some (v5_131, d143)) fu t.1 t.2.1 (nI i) t.2.2) (E := fun (t : Int32 × ya_D) => some (t.1, ya_sI t.2 33 s (nI (M 7 s))))
    (G' := fun fu i (t : Int32 × Int32 × ya_D) => f_X12_asks_L26 (nI s) (nI (M 7 s)) fu t.1 t.2.1 (nI i) t.2.2) (E' := fun (t : Int32 × ya_D) => some (t.1, ya_sI t.2 84 (311 + 3 * s + 1) (nI (M 7 s)))) (n := 100)
    (I := fun i t t' => pz_a1 s d t.2.2 ∧ pz_a2 (311 + 3 * s + 1) e t'.2.2 ∧ t.1 = t'.2.1 ∧ (i = 0 → t.1 = -1 ∧ t.2.1 = nI 0 ∧ t'.1 = -1) ∧ (0 < i → t.2.1 = t'.1 ∧ ∃ z, z ≤ t.1 ∧ pz_K M s (i - 1) z))
    (Q := fun t t' => pz_a1 s d t.2 ∧ pz_a2 (311 + 3 * s + 1) e t'.2 ∧ t.1 = t'.1)
    (fun fu t t' hI2 => ?_) (fun fu i t t' hi hI2 => ?_) ya_F 0 (-1, nI 0, d) (-1, -1, e) (by omega) (by unfold ya_F; omega) ⟨⟨fun _ _ _ => rfl, fun _ _ => rfl, fun _ _ _ => rfl⟩, ⟨fun _ _ _ _ => rfl, fun _ _ => rfl, fun _ _ => rfl, fun _ _ _ => rfl⟩, rfl, fun _ => ⟨rfl, rfl, rfl⟩, fun h => absurd h (by omega)⟩
  · obtain ⟨t, t', ⟨q1, q2, q3⟩, k1, k2⟩ := key
    refine ⟨t.1, ya_sI t.2 33 s (nI (M 7 s)), ya_sI t'.2 84 (311 + 3 * s + 1) (nI (M 7 s)), pz_a1_w q1, ?_, pz_a2_w q2, ?_, ?_, ?_⟩
    · rw [pn_e ⟨rfl, rfl⟩]; exact c7.symm
    · rw [pn_e ⟨rfl, rfl⟩]; exact r7.symm
    · unfold f_X11_asks
      rw [pm_isSeller1 hI, Option.bind_some, if_pos (pn_ok_nI hs (by omega)), if_neg pn_10, pn_rI (by omega) (by omega), Option.bind_some, pn_rI (by omega) (by omega), Option.bind_some, c5, c7]
      exact k1
    · unfold f_X12_asks
      rw [pm_isSeller2 hJ, Option.bind_some, if_pos (pn_ok_nI hs (by omega)), if_neg pn_10, show (1 : Int32) = nI 1 from rfl, pk_seller3 (by omega), Option.bind_some, r7]
      rw [q3]
      exact k2
  · obtain ⟨q1, q2, q3, -, q5⟩ := hI2
    obtain ⟨q6, -⟩ := q5 (by omega)
    refine ⟨(t.2.1, t.2.2), (t'.1, t'.2.2), ⟨q1, q2, q6⟩, ?_, ?_⟩
    · show f_X11_asks_L46 _ _ _ _ (fu + 1) _ _ _ _ = _
      rw [f_X11_asks_L46, if_pos (by decide), pn_wI (by omega) (by omega), Option.bind_some]
    · show f_X12_asks_L26 _ _ (fu + 1) _ _ _ _ = _
      rw [f_X12_asks_L26, if_pos (by decide), pz_setAsks (by omega), Option.bind_some]
  · obtain ⟨most, by_, dC⟩ := t
    obtain ⟨best, most', eR⟩ := t'
    obtain ⟨q1, q2, q3, q4, q5⟩ := hI2
    simp only at q1 q2 q3 q4 q5
    subst q3
    have h99 : ¬ (99 : Int32) < nI i := nI_nlt (a := 99) (b := i) (by omega) (by omega)
    have hRn := pz_a2_R (v := i) hJ (by omega) q2
    have hWi := hWn i (by omega)
    have he : ys (ya_sI eR 84 (311 + 3 * s + 1) (nI i)) (pm_up M 7 s i) (pm_up M 7 s i) := ⟨hRn, hWi, hWi, pv_sim_r _⟩
    have hq2' : pz_a2 (311 + 3 * s + 1) e (ya_sI eR 84 (311 + 3 * s + 1) (nI i)) := pz_a2_w q2
    -- what the reference does with what it gets
    have href : ∀ (e1 : ya_D) (z : Int32), f_X12_runs (lN 1) (ya_sI eR 84 (311 + 3 * s + 1) (nI i)) = some e1 → f_X12_allGets (nI s) e1 = some z → f_X12_asks_L26 (nI s) (nI (M 7 s)) (fu + 1) best most (nI i) eR = if z ≤ most then f_X12_asks_L26 (nI s) (nI (M 7 s)) fu best most (nI (i + 1)) e1 else f_X12_asks_L26 (nI s) (nI (M 7 s)) fu (nI i) z (nI (i + 1)) e1 := by
      intro e1 z h1 h2
      rw [f_X12_asks_L26, if_neg h99, pz_setAsks (by omega), pb_s, show (1 : Int64) = lN 1 from rfl, h1, pb_s, h2]
      simp only [pb_s, pj_2]
      by_cases c : z ≤ most
      · rw [if_pos c, if_neg (fun w => pn_nle.mpr w c), nI_1]
      · rw [if_neg c, if_pos (pn_nle.mp c), nI_1]
    -- the class runs the year
    have hrun : ∀ (cond : i = 0 ∨ ∃ r : Int32, f_X11_costsSomeDay (nI (M 5 s)) (nI i - 1) dC = some r ∧ r = 1), ∃ d1 e1 z, pz_a1 s d d1 ∧ pz_a2 (311 + 3 * s + 1) e e1 ∧ pz_K M s i z ∧ f_X11_asks_L46 (nI s) (nI (M 7 s)) (nI (M 5 s)) (fun (v5_131 : Int32) (d_131 : ya_D) => (ya_wI d_131 33 5 (nI s) (nI (M 7 s))).bind fun d143 => some (v5_131, d143)) (fu + 1) most by_ (nI i) dC = (if z ≤ most then f_X11_asks_L46 (nI s) (nI (M 7 s)) (nI (M 5 s)) (fun (v5_131 : Int32) (d_131 : ya_D) => (ya_wI d_131 33 5 (nI s) (nI (M 7 s))).bind fun d143 => some (v5_131, d143)) fu most by_ (nI (i + 1)) d1 else f_X11_asks_L46 (nI s) (nI (M 7 s)) (nI (M 5 s)) (fun (v5_131 : Int32) (d_131 : ya_D) => (ya_wI d_131 33 5 (nI s) (nI (M 7 s))).bind fun d143 => some (v5_131, d143)) fu z (nI i) (nI (i + 1)) d1) ∧ f_X12_runs (lN 1) (ya_sI eR 84 (311 + 3 * s + 1) (nI i)) = some e1 ∧ f_X12_allGets (nI s) e1 = some z ∧ ∃ g, z = nI g ∧ g < 2 ^ 31 := by
      intro cond
      have hCi := pz_a1_C (v := i) hI.1 q1
      obtain ⟨d1, e1, ⟨l, g, p, A1⟩, A2, A3, A4, A5⟩ := yr_run (a := 57) (S := 1) hCi he (by omega) (by omega)
      have hz : d1.1 66 s = nI (pn_sum (g s) (M 0 1)) := A1.2.1.2.1 s hs
      have hsl := pn_sum_le (f := g s) (K := 400000) (M 0 1) (fun i _ => A1.2.1.2.2.1 s i)
      refine ⟨d1, e1, d1.1 66 s, pz_a1_t (pz_a1_w q1) A2, pz_a2_t hq2' A3, pz_K_run hs hCi hWi A4, ?_, A5, (pz_allGets (yr_f2_s A3 he) A1 hs).trans (congrArg some hz.symm), _, hz, by omega⟩
      rw [f_X11_asks_L46, if_neg h99]
      simp (disch := omega) only [pj_3, pj_0, pl_1, pn_wI, pb_s, A4, pn_rI, nI_add]
      by_cases c0 : i = 0
      · rw [if_pos (by rw [c0]; rfl)]
      · obtain ⟨r, hr1, hr2⟩ := cond.resolve_left c0
        rw [pl_1] at hr1
        rw [if_neg (nI_ne0 (by omega) (by omega)), hr1, pb_s, hr2, if_neg pn_10]
    by_cases c0 : i = 0
    · obtain ⟨p1, p2, p3⟩ := q4 c0
      obtain ⟨d1, e1, z, B1, B2, B3, B4, B5, B6, g, B7, B8⟩ := hrun (Or.inl c0)
      have hz : ¬ z ≤ most := by
        rw [p1, B7, Int32.le_iff_toInt_le, nI_toInt B8, show (-1 : Int32).toInt = -1 by decide]
        omega
      refine ⟨(z, nI i, d1), (nI i, z, e1), ⟨B1, B2, rfl, fun h => absurd h (by omega), fun _ => ⟨rfl, z, Int32.le_refl z, by rw [Nat.add_sub_cancel]; exact B3⟩⟩, ?_, ?_⟩
      · exact B4.trans (if_neg hz)
      · exact (href e1 z B5 B6).trans (if_neg hz)
    · obtain ⟨p1, z0, p2, p3⟩ := q5 (by omega)
      subst p1
      obtain ⟨r, hr1, hr2, hr3⟩ := pz_costs (d' := dC) (n := i - 1) hI.1 hI.2.2 (q1.1 24 (by omega) (by omega)) (q1.1 27 (by omega) (by omega)) h3.1 (by omega)
      have hi1 : nI i - 1 = nI (i - 1) := by rw [pl_1, pn_sub (by omega)]
      rcases hr3 with hr0 | hr0
      · -- the class passes it over
        have hsim : pv_sim (pm_up M 7 s (i - 1)) (pm_up M 7 s i) := pv_sim_asks (fun t ht => by
          have := hr2 hr0 t ht
          omega)
        obtain ⟨e1, B5, B2, B6⟩ := p3 _ _ (ys_t (hWn (i - 1) (by omega)) hsim he)
        refine ⟨(most, by_, dC), (by_, most, e1), ⟨q1, pz_a2_t hq2' B2, rfl, fun h => absurd h (by omega), fun _ => ⟨rfl, z0, p2, by
          rw [Nat.add_sub_cancel]
          intro e' M' he'
          exact p3 e' M' (ys_t (hWn (i - 1) (by omega)) hsim he')⟩⟩, ?_, ?_⟩
        · show f_X11_asks_L46 _ _ _ _ (fu + 1) _ _ _ _ = _
          rw [f_X11_asks_L46, if_neg h99, pj_3, pj_0, if_neg (nI_ne0 (by omega) (by omega)), hi1, hr1, pb_s, if_pos hr0, nI_1]
        · exact (href e1 z0 B5 B6).trans (if_pos p2)
      · obtain ⟨d1, e1, z, B1, B2, B3, B4, B5, B6, g, B7, B8⟩ := hrun (Or.inr ⟨r, by rw [hi1]; exact hr1, hr0⟩)
        by_cases hz : z ≤ most
        · refine ⟨(most, by_, d1), (by_, most, e1), ⟨B1, B2, rfl, fun h => absurd h (by omega), fun _ => ⟨rfl, z, hz, by rw [Nat.add_sub_cancel]; exact B3⟩⟩, ?_, ?_⟩
          · exact B4.trans (if_pos hz)
          · exact (href e1 z B5 B6).trans (if_pos hz)
        · refine ⟨(z, nI i, d1), (nI i, z, e1), ⟨B1, B2, rfl, fun h => absurd h (by omega), fun _ => ⟨rfl, z, Int32.le_refl z, by rw [Nat.add_sub_cancel]; exact B3⟩⟩, ?_, ?_⟩
          · exact B4.trans (if_neg hz)
          · exact (href e1 z B5 B6).trans (if_neg hz)
end
