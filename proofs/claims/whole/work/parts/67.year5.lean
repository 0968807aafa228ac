/-! The year: a trade, a day's beginning -/
section
variable {d e : ya_D} {M M' : pm_M} {a : Nat}
/-- what is told of a thing on a day -/
def yr_C (M : pm_M) (a : Nat) (K : Nat → Nat → Prop) (d e : ya_D) : Prop := ∀ x t, x < M 0 3 → t < M 0 1 → K x t → d.1 (a + 1) (20 * x + t) = e.1 91 (20 * x + t) ∧ (d.1 (a + 2) (20 * x + t) = nI (pm_wd M x t (M 2 (20 * x + t)) (M 0 5)) ∧ e.1 92 (20 * x + t) = nI (pm_wd M x t (M 2 (20 * x + t)) (M 0 5))) ∧ d.1 (a + 3) (20 * x + t) = e.1 93 (20 * x + t)
/-- what each buyer spends and gets; lots; x -/
def yr_P (M : pm_M) (a : Nat) (p : Nat → Nat) (d e : ya_D) : Prop := (∀ b, b < M 0 5 → d.1 (a + 12) b = e.1 98 b) ∧ (∀ b, b < M 0 5 → d.1 (a + 13) b = nI (p b) ∧ e.1 99 b = nI (p b)) ∧ d.1 a 15 = e.1 83 27 ∧ d.2 a 16 = e.2 83 28 ∧ ∃ X, X < 2 ^ 31 ∧ d.2 a 16 = lN X
/-- the cells that the class's year changes, and those of the reference's -/
def yr_f1 (a : Nat) (d d' : ya_D) : Prop := (∀ a', a' < a ∨ a + 15 ≤ a' → d'.1 a' = d.1 a') ∧ (∀ q, q ≠ 14 → q ≠ 15 → d'.1 a q = d.1 a q) ∧ (∀ a' k, a' ≠ a ∨ k ≠ 16 → d'.2 a' k = d.2 a' k)
def yr_f2 (e e' : ya_D) : Prop := (∀ a', a' ≠ 83 → (a' < 90 ∨ 101 < a') → e'.1 a' = e.1 a') ∧ (∀ q, q ≠ 27 → e'.1 83 q = e.1 83 q) ∧ (∀ a' k, a' ≠ 83 ∨ k ≠ 28 → e'.2 a' k = e.2 a' k)
theorem yr_f1_t {d1 d2 d3 : ya_D} (h : yr_f1 a d1 d2) (h' : yr_f1 a d2 d3) : yr_f1 a d1 d3 := ⟨fun a' q => (h'.1 a' q).trans (h.1 a' q), fun q q1 q2 => (h'.2.1 q q1 q2).trans (h.2.1 q q1 q2), fun a' k q => (h'.2.2 a' k q).trans (h.2.2 a' k q)⟩
theorem yr_f2_t {d1 d2 d3 : ya_D} (h : yr_f2 d1 d2) (h' : yr_f2 d2 d3) : yr_f2 d1 d3 := ⟨fun a' q q' => (h'.1 a' q q').trans (h.1 a' q q'), fun q q1 => (h'.2.1 q q1).trans (h.2.1 q q1), fun a' k q => (h'.2.2 a' k q).trans (h.2.2 a' k q)⟩
theorem yr_f1_C (ha : 42 ≤ a) {d' : ya_D} (h : yr_f1 a d d') (hC : pm_C d 24 M) : pm_C d' 24 M := pm_C_c hC (fun a' k h1 h2 => by rw [h.1 a' (by omega)])
theorem yr_f2_s {e' : ya_D} (h : yr_f2 e e') (hs : ys e M M') : ys e' M M' := ys_c hs (h.1 84 (by decide) (by decide))
theorem yr_L_c {U : Nat → Nat} {l : Nat → Nat → Nat} {d' e' : ya_D} (h : yr_L M a U l d e) (q1 : d'.1 (a + 7) = d.1 (a + 7)) (q2 : d'.1 (a + 8) = d.1 (a + 8)) (q3 : e'.1 90 = e.1 90) : yr_L M a U l d' e' := by
  unfold yr_L
  rw [q1, q2, q3]
  exact h
theorem yr_G_c {T : Nat → Nat} {g : Nat → Nat → Nat} {d' e' : ya_D} (h : yr_G M a T g d e) (q1 : d'.1 (a + 5) = d.1 (a + 5)) (q2 : d'.1 (a + 9) = d.1 (a + 9)) (q3 : e'.1 94 = e.1 94) : yr_G M a T g d' e' := by
  unfold yr_G
  rw [q1, q2, q3]
  exact h
theorem yr_o_c {x t m n : Nat} {o : Nat → Nat} {d' e' : ya_D} (h : yr_o M a x t m o d e n) (q1 : d'.1 a 14 = d.1 a 14) (q2 : d'.1 (a + 14) = d.1 (a + 14)) (q3 : e'.1 101 = e.1 101) : yr_o M a x t m o d' e' n := by
  unfold yr_o
  rw [q1, q2, q3]
  exact h
theorem yr_L55_0 (m : Int32) (e : ya_D) (i : Int32) : f_X12_standIn_L55 (nI 0) m ya_F i e = some (m, e) := by
  show f_X12_standIn_L55 (nI 0) m (9999 + 1) i e = _
  rw [f_X12_standIn_L55]
  by_cases c : i ≤ 0
  · rw [if_pos c]
  · rw [if_neg c, if_pos (show nI 0 = (0 : Int32) from rfl)]
/-- the order of those who come, drawn or not -/
theorem yr_order (hC : pm_C d 24 M) (h : ys e M M') {x t v : Nat} (ha : 42 ≤ a) (hx : x < M 0 3) (ht : t < M 0 1) (hv : v = 0 ∨ v = 1) (h15 : d.1 a 15 = e.1 83 27) (hX : d.2 a 16 = e.2 83 28) (hX2 : ∃ X, X < 2 ^ 31 ∧ d.2 a 16 = lN X) :
    ∃ d1 d2 e2 m o, yr_o M a x t m o d2 e2 (M 0 5) ∧ (∀ a', a' ≠ a → a' ≠ a + 14 → d2.1 a' = d.1 a') ∧ (∀ q, q ≠ 14 → q ≠ 15 → d2.1 a q = d.1 a q) ∧ (∀ a' k, a' ≠ a ∨ k ≠ 16 → d2.2 a' k = d.2 a' k) ∧ (∀ a', a' ≠ 83 → a' ≠ 101 → e2.1 a' = e.1 a') ∧ (∀ q, q ≠ 27 → e2.1 83 q = e.1 83 q) ∧ (∀ a' k, a' ≠ 83 ∨ k ≠ 28 → e2.2 a' k = e.2 a' k) ∧ d2.1 a 15 = e2.1 83 27 ∧ d2.2 a 16 = e2.2 83 28 ∧ (∃ X, X < 2 ^ 31 ∧ d2.2 a 16 = lN X) ∧ (∀ a', a' ≠ a → a' ≠ a + 14 → d1.1 a' = d.1 a') ∧ f_X10_gather a 35 (nI x) (nI t) (nI (M 2 (20 * x + t))) d = some d1 ∧ (if v = 0 then d1 = d2 else (ya_pI d1 a 15 (d1.1 a 15 + 1)).bind (fun d115 => f_X10_mix a d115) = some d2) ∧ f_X12_standIn (nI x) (nI t) (nI v) (ya_sI e 83 27 (e.1 83 27 + nI v)) = some (nI m, e2) := by
  obtain ⟨⟨b0, b1, b2, b3, b4, b5⟩, -, w2, w3, -, w5⟩ := pk_w h.2.1
  have h' : ys (ya_sI e 83 27 (e.1 83 27 + nI v)) M M' := ys_c h (rw_n (by decide))
  obtain ⟨d1, e1, m, o, o1, q1, q2, q3, q4, q5, q6, q7⟩ := yr_gather hC h' hx ht ha (nI v) (fun v4_49 d_49 => f_X12_standIn_L55 (nI v) v4_49 ya_F (v4_49 - 1) d_49)
  have q7' : f_X12_standIn (nI x) (nI t) (nI v) (ya_sI e 83 27 (e.1 83 27 + nI v)) = f_X12_standIn_L55 (nI v) (nI m) ya_F (nI m - 1) e1 := q7
  rcases hv with rfl | rfl
  · refine ⟨d1, d1, e1, m, o, o1, q1, fun q g1 _ => q2 q g1, fun a' k _ => by rw [q3], fun a' g1 g2 => (q4 a' g2).trans (rw_n g1), fun q g1 => (congrFun (q4 83 (by decide)) q).trans (pn_o (Or.inr g1)), fun a' k _ => by rw [q5]; rfl, ?_, ?_, ?_, q1, q6, by rw [if_pos rfl], q7'.trans (yr_L55_0 _ _ _)⟩
    · rw [q2 15 (by decide), q4 83 (by decide), pn_e ⟨rfl, rfl⟩, nI_z, h15]
    · rw [q3, q5]; exact hX
    · rw [q3]; exact hX2
  · obtain ⟨d2, e2, o2, r1, r2, r3, r4, r5, r6, r7, r8, r9⟩ := yr_mix (d := ya_sI d1 a 15 (d1.1 a 15 + 1)) (e := e1) (M := M) (a := a) (x := x) (t := t) (m := m) (o := o) ha (yr_o_c o1 (pn_o (by omega)) (rw_n (by omega)) rfl) b5 (by show d1.2 a 16 = _; rw [q3, q5]; exact hX) (by show ∃ X, X < 2 ^ 31 ∧ d1.2 a 16 = lN X; rw [q3]; exact hX2)
    refine ⟨d1, d2, e2, m, o2, r1, fun a' g1 g2 => (r2 a' g2).trans ((rw_n g1).trans (q1 a' g1 g2)), fun q g1 g2 => ?_, fun a' k g => (r3 a' k g).trans ?_, fun a' g1 g2 => (r4 a' g2).trans ((q4 a' g2).trans (rw_n g1)), fun q g1 => ?_, fun a' k g => (r5 a' k g).trans ?_, ?_, r6, r7, q1, q6, ?_, q7'.trans r9⟩
    · rw [r2 a (by omega)]
      exact (pn_o (by omega)).trans (q2 q g1)
    · show d1.2 a' k = _
      rw [q3]
    · rw [r4 83 (by decide), q4 83 (by decide)]
      exact pn_o (by omega)
    · rw [q5]; rfl
    · rw [r2 a (by omega), r4 83 (by decide), pn_e ⟨rfl, rfl⟩, q2 15 (by decide), q4 83 (by decide), pn_e ⟨rfl, rfl⟩, h15]; rfl
    · rw [if_neg (by decide), ya_pI, Option.bind_some]
      exact r8
theorem yr_tr1 (hC : pm_C d 24 M) (hW : pm_W M) {x t N A v : Nat} {d1 d2 d3 d4 d5 : ya_D} (ha : 42 ≤ a) (hx : x < M 0 3) (ht : t < M 0 1) (hN : N ≤ 198 * 20 * 5) (hA : pm_wd M x t (M 2 (20 * x + t)) (M 0 5) = A) (hwd : A ≤ 63) (hv : v = 0 ∨ v = 1) (hvA : A ≤ N ↔ v = 0) (hd1 : ya_sI (ya_sI (ya_sI d (a + 1) (20 * x + t) (nI N)) (a + 2) (20 * x + t) (nI A)) (a + 3) (20 * x + t) (nI (min N A)) = d1)
    (sup1 : f_X10_supplyAt a 30 (nI x) (nI (M 2 (20 * x + t))) d = some (nI N)) (q1 : ∀ a', a' ≠ a → a' ≠ a + 14 → d3.1 a' = d1.1 a') (q1' : ∀ a', a' ≠ a → a' ≠ a + 14 → d2.1 a' = d1.1 a') (q10 : f_X10_gather a 35 (nI x) (nI t) (nI (M 2 (20 * x + t))) d1 = some d2) (q11 : if v = 0 then d2 = d3 else (ya_pI d2 a 15 (d2.1 a 15 + 1)).bind (fun d115 => f_X10_mix a d115) = some d3)
    (s4 : ∀ a', a' ≠ a + 12 → a' ≠ a + 13 → d4.1 a' = d3.1 a') (s8 : f_X10_handOut a 35 (nI N) (nI (M 2 (20 * x + t))) d3 = some d4) (u8 : f_X10_sell a 30 (nI x) (nI t) (nI (min N A)) (nI (M 2 (20 * x + t))) d4 = some d5) : f_X10_trade a 24 (nI x) (nI t) d = some d5 := by
  obtain ⟨⟨b0, b1, b2, b3, b4, b5⟩, -, w2, -, -, -⟩ := pk_w hW
  have hp := w2 x t hx ht
  have hw : f_X1_wanted 35 (nI x) (nI t) (nI (M 2 (20 * x + t))) (ya_sI d (a + 1) (20 * x + t) (nI N)) = some (nI A) := by
    rw [pk_wanted (pm_C_c hC (fun a' k h1 h2 => by rw [rw_n (by omega)])) hW (by omega) (by omega) (by omega), hA]
  have c27 := ((pk_c hC).2.2.2.2.2.2.2.1 x t hx ht).1
  have e11 : d1.1 (a + 1) (20 * x + t) = nI N := by
    rw [← hd1]
    exact (pn_o (by omega)).trans ((pn_o (by omega)).trans (pn_e ⟨rfl, rfl⟩))
  have e12 : d1.1 (a + 2) (20 * x + t) = nI A := by
    rw [← hd1]
    exact (pn_o (by omega)).trans (pn_e ⟨rfl, rfl⟩)
  have e13 : d1.1 (a + 3) (20 * x + t) = nI (min N A) := by
    rw [← hd1]
    exact pn_e ⟨rfl, rfl⟩
  unfold f_X10_trade
  simp (disch := omega) only [pl_0, pl_1, pl_2, pl_3, pl_4, pl_5, pl_6, pl_7, pl_8, pl_9, pl_10, pl_11, pl_12, pl_20, pl_24, pl_30, pl_31, pl_60, pl_99, pl_100, pl_111, pl_211, pl_311, pl_326, pl_400, pl_426, pb_s, ya_b2s, pj_0, pj_1, pj_2, pj_3, pb_pI, pb_pL, pm_cell1, pm_cell2, nI_add, pn_mul, pn_sub, pn_rI, pn_wI, pn_eq, pn_le, pn_lt, pm_min, pn_o, pn_e, pn_sI2, Nat.zero_add, Nat.add_zero, Nat.reduceAdd, c27, sup1, hw]
  rw [hd1, q10]
  simp (disch := omega) only [pl_0, pl_1, pl_2, pl_3, pl_4, pl_5, pl_6, pl_7, pl_8, pl_9, pl_10, pl_11, pl_12, pl_20, pl_24, pl_30, pl_31, pl_60, pl_99, pl_100, pl_111, pl_211, pl_311, pl_326, pl_400, pl_426, pb_s, ya_b2s, pj_0, pj_1, pj_2, pj_3, pb_pI, pb_pL, pm_cell1, pm_cell2, nI_add, pn_mul, pn_sub, pn_rI, pn_wI, pn_eq, pn_le, pn_lt, pm_min, pn_o, pn_e, pn_sI2, Nat.zero_add, Nat.add_zero, Nat.reduceAdd, q1', e11, e12]
  rcases hv with rfl | rfl
  · rw [if_pos rfl] at q11
    subst q11
    simp (disch := omega) only [pl_0, pl_1, pl_2, pl_3, pl_4, pl_5, pl_6, pl_7, pl_8, pl_9, pl_10, pl_11, pl_12, pl_20, pl_24, pl_30, pl_31, pl_60, pl_99, pl_100, pl_111, pl_211, pl_311, pl_326, pl_400, pl_426, pb_s, ya_b2s, pj_0, pj_1, pj_2, pj_3, pb_pI, pb_pL, pm_cell1, pm_cell2, nI_add, pn_mul, pn_sub, pn_rI, pn_wI, pn_eq, pn_le, pn_lt, pm_min, pn_o, pn_e, pn_sI2, Nat.zero_add, Nat.add_zero, Nat.reduceAdd, if_pos (hvA.mpr rfl), q1, e11, e13, s8, s4, u8]
  · rw [if_neg (by decide)] at q11
    simp (disch := omega) only [pl_0, pl_1, pl_2, pl_3, pl_4, pl_5, pl_6, pl_7, pl_8, pl_9, pl_10, pl_11, pl_12, pl_20, pl_24, pl_30, pl_31, pl_60, pl_99, pl_100, pl_111, pl_211, pl_311, pl_326, pl_400, pl_426, pb_pI, pb_s] at q11
    simp (disch := omega) only [pl_0, pl_1, pl_2, pl_3, pl_4, pl_5, pl_6, pl_7, pl_8, pl_9, pl_10, pl_11, pl_12, pl_20, pl_24, pl_30, pl_31, pl_60, pl_99, pl_100, pl_111, pl_211, pl_311, pl_326, pl_400, pl_426, pb_s, ya_b2s, pj_0, pj_1, pj_2, pj_3, pb_pI, pb_pL, pm_cell1, pm_cell2, nI_add, pn_mul, pn_sub, pn_rI, pn_wI, pn_eq, pn_le, pn_lt, pm_min, pn_o, pn_e, pn_sI2, Nat.zero_add, Nat.add_zero, Nat.reduceAdd, if_neg (show ¬ A ≤ N by omega), q11, q1, e11, e13, s8, s4, u8]
theorem yr_tr2 (h : ys e M M') {x t N A v m : Nat} {e3 e4 e5 : ya_D} (hx : x < M 0 3) (ht : t < M 0 1) (hN : N ≤ 198 * 20 * 5) (hA : pm_wd M x t (M 2 (20 * x + t)) (M 0 5) = A) (hwd : A ≤ 63) (hv : v = 0 ∨ v = 1) (hvA : A ≤ N ↔ v = 0)
    (sup2 : ∀ k : Int32 → Option ya_D, f_X12_sellsOn_L5 (nI x) (nI t) e k ya_F (nI 0) (nI 0) = k (nI N)) (q12 : f_X12_standIn (nI x) (nI t) (nI v) (ya_sI (ya_sI (ya_sI e 91 (20 * x + t) (nI N)) 92 (20 * x + t) (nI A)) 83 27 ((ya_sI (ya_sI e 91 (20 * x + t) (nI N)) 92 (20 * x + t) (nI A)).1 83 27 + nI v)) = some (nI m, e3))
    (s9 : f_X12_sellsOn_L125 (nI x) (nI t) (nI N) (nI m) (fun v7_205 d_205 => (f_X12_takes_ (nI x) (nI t) (nI N - v7_205) (ya_sI d_205 93 (20 * x + t) (nI N - v7_205))).bind fun d226 => some d226) ya_F (nI N) (nI 0) e3 = (f_X12_takes_ (nI x) (nI t) (nI N - nI (N - A)) (ya_sI e4 93 (20 * x + t) (nI N - nI (N - A)))).bind fun d226 => some d226) (u9 : f_X12_takes_ (nI x) (nI t) (nI (min N A)) (ya_sI e4 93 (20 * x + t) (nI (min N A))) = some e5) : f_X12_sellsOn (nI x) (nI t) e = some e5 := by
  obtain ⟨⟨b0, b1, b2, b3, b4, b5⟩, -, w2, -, -, -⟩ := pk_w h.2.1
  have hNA : N - (N - A) = min N A := by omega
  simp (disch := omega) only [pn_o] at q12
  unfold f_X12_sellsOn
  rw [pl_0, sup2]
  rcases hv with rfl | rfl
  · simp (disch := omega) only [pl_0, pl_1, pl_2, pl_3, pl_4, pl_5, pl_6, pl_7, pl_8, pl_9, pl_10, pl_11, pl_12, pl_20, pl_24, pl_30, pl_31, pl_60, pl_99, pl_100, pl_111, pl_211, pl_311, pl_326, pl_400, pl_426, pb_s, ya_b2s, pj_0, pj_1, pj_2, pj_3, pb_pI, pb_pL, pm_cell1, pm_cell2, nI_add, pn_mul, pn_sub, pn_rI, pn_wI, pn_eq, pn_le, pn_lt, pm_min, pn_o, pn_e, pn_sI2, Nat.zero_add, Nat.add_zero, ys_asked h hx ht, hA, if_pos (hvA.mpr rfl), if_true, q12, s9, hNA, u9]
  · simp (disch := omega) only [pl_0, pl_1, pl_2, pl_3, pl_4, pl_5, pl_6, pl_7, pl_8, pl_9, pl_10, pl_11, pl_12, pl_20, pl_24, pl_30, pl_31, pl_60, pl_99, pl_100, pl_111, pl_211, pl_311, pl_326, pl_400, pl_426, pb_s, ya_b2s, pj_0, pj_1, pj_2, pj_3, pb_pI, pb_pL, pm_cell1, pm_cell2, nI_add, pn_mul, pn_sub, pn_rI, pn_wI, pn_eq, pn_le, pn_lt, pm_min, pn_o, pn_e, pn_sI2, Nat.zero_add, Nat.add_zero, ys_asked h hx ht, hA, if_neg (show ¬ A ≤ N by omega), if_false, Nat.one_ne_zero, q12, s9, hNA, u9]
theorem yr_trade (hC : pm_C d 24 M) (h : ys e M M') {x t : Nat} {T : Nat → Nat} {l g : Nat → Nat → Nat} {p : Nat → Nat} {K : Nat → Nat → Prop} (ha : 42 ≤ a) (hx : x < M 0 3) (ht : t < M 0 1) (hL : yr_L M a (fun _ => t + 1) l d e) (hG : yr_G M a T g d e) (hT : ∀ s, M 5 s = x → T s ≤ t) (hS : ∀ s, s < M 0 4 → d.1 (a + 10) s = e.1 96 s) (hP : yr_P M a p d e) (hK : yr_C M a K d e) :
    ∃ (d' e' : ya_D) (l' g' : Nat → Nat → Nat) (p' : Nat → Nat), yr_L M a (fun _ => t + 1) l' d' e' ∧ yr_G M a (fun s => if M 5 s = x then t + 1 else T s) g' d' e' ∧ (∀ s, s < M 0 4 → d'.1 (a + 10) s = e'.1 96 s) ∧ yr_P M a p' d' e' ∧ yr_C M a (fun x' t' => (x' = x ∧ t' = t) ∨ K x' t') d' e' ∧ (∀ b, b < M 0 5 → p' b ≤ p b + if pm_co M x t (M 2 (20 * x + t)) b then M 10 b else 0) ∧ yr_f1 a d d' ∧ yr_f2 e e' ∧ d'.1 (a + 4) = d.1 (a + 4) ∧ d'.1 (a + 6) = d.1 (a + 6) ∧ d'.1 (a + 11) = d.1 (a + 11) ∧ e'.1 95 = e.1 95 ∧ e'.1 97 = e.1 97 ∧ e'.1 100 = e.1 100 ∧ f_X10_trade a 24 (nI x) (nI t) d = some d' ∧ f_X12_sellsOn (nI x) (nI t) e = some e' := by
  obtain ⟨⟨b0, b1, b2, b3, b4, b5⟩, -, w2, w3, -, w5⟩ := pk_w h.2.1
  have hp := w2 x t hx ht
  have hwd := pm_wd_le h.2.1 (x := x) (t := t) (y := M 2 (20 * x + t)) (n := M 0 5) (Nat.le_refl _)
  obtain ⟨L1, L2, L3, L4, L5, L6⟩ := hL
  obtain ⟨P1, P2, P3, P4, P5⟩ := hP
  -- offered
  have hn : pn_sum (fun s => if pm_of_ M x t s then pn_sum (l s) (M 0 1) else 0) (M 0 4) ≤ 198 * 20 * 5 := by
    have q1 := pn_sum_le (f := fun s => if pm_of_ M x t s then pn_sum (l s) (M 0 1) else 0) (K := 198 * 20) (M 0 4) (fun s _ => by
      have := pn_sum_le (f := l s) (K := 198) (M 0 1) (fun c _ => L4 s c)
      split
      · omega
      · omega)
    omega
  have sup1 := yr_supply hC h.2.1 hx ht L3
  have sup2 := ys_there h hx ht L2
  generalize hN : pn_sum (fun s => if pm_of_ M x t s then pn_sum (l s) (M 0 1) else 0) (M 0 4) = N at hn sup1 sup2
  generalize hA : pm_wd M x t (M 2 (20 * x + t)) (M 0 5) = A at hwd
  -- the class writes what is offered, asked, sold
  let d1 := ya_sI (ya_sI (ya_sI d (a + 1) (20 * x + t) (nI N)) (a + 2) (20 * x + t) (nI A)) (a + 3) (20 * x + t) (nI (min N A))
  let e1 := ya_sI (ya_sI e 91 (20 * x + t) (nI N)) 92 (20 * x + t) (nI A)
  have fd1 : ∀ a', a' ≠ a + 1 → a' ≠ a + 2 → a' ≠ a + 3 → d1.1 a' = d.1 a' := fun a' h1 h2 h3 => (rw_n h3).trans ((rw_n h2).trans (rw_n h1))
  have fe1 : ∀ a', a' ≠ 91 → a' ≠ 92 → e1.1 a' = e.1 a' := fun a' h1 h2 => (rw_n h2).trans (rw_n h1)
  have hC1 : pm_C d1 24 M := pm_C_c hC (fun a' k h1 h2 => by rw [fd1 a' (by omega) (by omega) (by omega)])
  have hys1 : ys e1 M M' := ys_c h (fe1 84 (by decide) (by decide))
  have hv : ∃ v, (v = 0 ∨ v = 1) ∧ (A ≤ N ↔ v = 0) := by
    by_cases c : A ≤ N
    · exact ⟨0, Or.inl rfl, by omega⟩
    · exact ⟨1, Or.inr rfl, by omega⟩
  obtain ⟨v, hv, hvA⟩ := hv
  obtain ⟨d2, d3, e3, m, o, o1, q1, q2, q3, q4, q5, q6, q7, q8, q9, q1', q10, q11, q12⟩ := yr_order hC1 hys1 ha hx ht hv (show d1.1 a 15 = e1.1 83 27 by rw [fd1 a (by omega) (by omega) (by omega), fe1 83 (by decide) (by decide)]; exact P3) (show d1.2 a 16 = e1.2 83 28 from P4) (show ∃ X, X < 2 ^ 31 ∧ d1.2 a 16 = lN X from P5)
  have hC3 : pm_C d3 24 M := pm_C_c hC1 (fun a' k h1 h2 => by rw [q1 a' (by omega) (by omega)])
  have hys3 : ys e3 M M' := ys_c hys1 (q4 84 (by decide) (by decide))
  obtain ⟨d4, e4, p', s1, s2, s3, -, s4, s5, s6, s7, s8, s9⟩ := yr_hand hC3 hys3 (p := p) ha hx ht (show N < 2 ^ 31 by omega) o1 (fun b hb => by rw [q1 (a + 12) (by omega) (by omega), fd1 (a + 12) (by omega) (by omega) (by omega), q4 98 (by decide) (by decide), fe1 98 (by decide) (by decide)]; exact P1 b hb) (fun b hb => by rw [q1 (a + 13) (by omega) (by omega), fd1 (a + 13) (by omega) (by omega) (by omega), q4 99 (by decide) (by decide), fe1 99 (by decide) (by decide)]; exact P2 b hb) (fun v7_205 d_205 => (f_X12_takes_ (nI x) (nI t) (nI N - v7_205) (ya_sI d_205 93 (20 * x + t) (nI N - v7_205))).bind fun d226 => some d226)
  rw [hA] at s9
  have hC4 : pm_C d4 24 M := pm_C_c hC3 (fun a' k h1 h2 => by rw [s4 a' (by omega) (by omega)])
  have hys4 : ys e4 M M' := ys_c hys3 (s6 84 (by decide) (by decide))
  have t1 : ∀ a', a' ≠ a → a' ≠ a + 1 → a' ≠ a + 2 → a' ≠ a + 3 → a' ≠ a + 12 → a' ≠ a + 13 → a' ≠ a + 14 → d4.1 a' = d.1 a' := fun a' g0 g1 g2 g3 g4 g5 g6 => (s4 a' g4 g5).trans ((q1 a' g0 g6).trans (fd1 a' g1 g2 g3))
  have t2 : ∀ a', a' ≠ 83 → a' ≠ 91 → a' ≠ 92 → a' ≠ 93 → a' ≠ 98 → a' ≠ 99 → a' ≠ 101 → (ya_sI e4 93 (20 * x + t) (nI (min N A))).1 a' = e.1 a' := fun a' g0 g1 g2 g3 g4 g5 g6 => (rw_n g3).trans ((s6 a' g4 g5).trans ((q4 a' g0 g6).trans (fe1 a' g1 g2)))
  obtain ⟨d5, e5, l', g', u1, u2, u3, u4, u5, u6, u7, u8, u9⟩ := yr_sell (d := d4) (e := ya_sI e4 93 (20 * x + t) (nI (min N A))) (M := M) (M' := M') (a := a) (x := x) (t := t) (n := min N A) (T := T) (l := l) (g := g) hC4 (ys_c hys4 (rw_n (by decide))) ha hx ht (by omega)
    (yr_L_c (d := d) (e := e) ⟨L1, L2, L3, L4, L5, L6⟩ (t1 _ (by omega) (by omega) (by omega) (by omega) (by omega) (by omega) (by omega)) (t1 _ (by omega) (by omega) (by omega) (by omega) (by omega) (by omega) (by omega)) (t2 _ (by decide) (by decide) (by decide) (by decide) (by decide) (by decide) (by decide)))
    (yr_G_c (d := d) (e := e) hG (t1 _ (by omega) (by omega) (by omega) (by omega) (by omega) (by omega) (by omega)) (t1 _ (by omega) (by omega) (by omega) (by omega) (by omega) (by omega) (by omega)) (t2 _ (by decide) (by decide) (by decide) (by decide) (by decide) (by decide) (by decide))) hT
    (fun s hs => by rw [t1 _ (by omega) (by omega) (by omega) (by omega) (by omega) (by omega) (by omega), t2 _ (by decide) (by decide) (by decide) (by decide) (by decide) (by decide) (by decide)]; exact hS s hs)
  have v1 : ∀ a', a' ≠ a → a' ≠ a + 1 → a' ≠ a + 2 → a' ≠ a + 3 → a' ≠ a + 5 → a' ≠ a + 7 → a' ≠ a + 8 → a' ≠ a + 9 → a' ≠ a + 10 → a' ≠ a + 12 → a' ≠ a + 13 → a' ≠ a + 14 → d5.1 a' = d.1 a' := fun a' g0 g1 g2 g3 g5 g7 g8 g9 g10 g12 g13 g14 => (u4 a' g5 g7 g8 g9 g10).trans (t1 a' g0 g1 g2 g3 g12 g13 g14)
  have v2 : ∀ a', a' ≠ 83 → a' ≠ 90 → a' ≠ 91 → a' ≠ 92 → a' ≠ 93 → a' ≠ 94 → a' ≠ 96 → a' ≠ 98 → a' ≠ 99 → a' ≠ 101 → e5.1 a' = e.1 a' := fun a' g0 g90 g91 g92 g93 g94 g96 g98 g99 g101 => (u6 a' g90 g94 g96).trans (t2 a' g0 g91 g92 g93 g98 g99 g101)
  have r1 : d5.1 (a + 1) = rs (d.1 (a + 1)) (20 * x + t) (nI N) := by
    rw [u4 _ (by omega) (by omega) (by omega) (by omega) (by omega), s4 _ (by omega) (by omega), q1 _ (by omega) (by omega)]
    exact (rw_n (by omega)).trans ((rw_n (by omega)).trans (rw_e rfl))
  have r2 : d5.1 (a + 2) = rs (d.1 (a + 2)) (20 * x + t) (nI A) := by
    rw [u4 _ (by omega) (by omega) (by omega) (by omega) (by omega), s4 _ (by omega) (by omega), q1 _ (by omega) (by omega)]
    exact (rw_n (by omega)).trans ((rw_e rfl).trans (by rw [rw_n (by omega)]))
  have r3 : d5.1 (a + 3) = rs (d.1 (a + 3)) (20 * x + t) (nI (min N A)) := by
    rw [u4 _ (by omega) (by omega) (by omega) (by omega) (by omega), s4 _ (by omega) (by omega), q1 _ (by omega) (by omega)]
    exact (rw_e rfl).trans (by rw [rw_n (by omega), rw_n (by omega)])
  have r4 : e5.1 91 = rs (e.1 91) (20 * x + t) (nI N) := by
    rw [u6 _ (by decide) (by decide) (by decide), rw_n (by decide), s6 _ (by decide) (by decide), q4 _ (by decide) (by decide)]
    exact (rw_n (by decide)).trans (rw_e rfl)
  have r5 : e5.1 92 = rs (e.1 92) (20 * x + t) (nI A) := by
    rw [u6 _ (by decide) (by decide) (by decide), rw_n (by decide), s6 _ (by decide) (by decide), q4 _ (by decide) (by decide)]
    exact (rw_e rfl).trans (by rw [rw_n (by decide)])
  have r6 : e5.1 93 = rs (e.1 93) (20 * x + t) (nI (min N A)) := by
    rw [u6 _ (by decide) (by decide) (by decide), rw_e rfl, s6 _ (by decide) (by decide), q4 _ (by decide) (by decide), fe1 _ (by decide) (by decide)]
  have ra : d5.1 a = d3.1 a := (u4 a (by omega) (by omega) (by omega) (by omega) (by omega)).trans (s4 a (by omega) (by omega))
  have rb : e5.1 83 = e3.1 83 := (u6 83 (by decide) (by decide) (by decide)).trans ((rw_n (by decide)).trans (s6 83 (by decide) (by decide)))
  have rc : d5.2 = d3.2 := u5.trans s5
  have rd : e5.2 = e3.2 := u7.trans s7
  refine ⟨d5, e5, l', g', p', u1, u2, u3, ⟨fun b hb => ?_, fun b hb => ?_, ?_, ?_, ?_⟩, fun x' t' hx' ht' hk => ?_, s3, ⟨fun a' g => v1 a' (by omega) (by omega) (by omega) (by omega) (by omega) (by omega) (by omega) (by omega) (by omega) (by omega) (by omega) (by omega), fun q g1 g2 => ?_, fun a' k g => ?_⟩, ⟨fun a' g1 g2 => v2 a' (by omega) (by omega) (by omega) (by omega) (by omega) (by omega) (by omega) (by omega) (by omega) (by omega), fun q g1 => ?_, fun a' k g => ?_⟩, v1 _ (by omega) (by omega) (by omega) (by omega) (by omega) (by omega) (by omega) (by omega) (by omega) (by omega) (by omega) (by omega), v1 _ (by omega) (by omega) (by omega) (by omega) (by omega) (by omega) (by omega) (by omega) (by omega) (by omega) (by omega) (by omega), v1 _ (by omega) (by omega) (by omega) (by omega) (by omega) (by omega) (by omega) (by omega) (by omega) (by omega) (by omega) (by omega), v2 _ (by decide) (by decide) (by decide) (by decide) (by decide) (by decide) (by decide) (by decide) (by decide) (by decide), v2 _ (by decide) (by decide) (by decide) (by decide) (by decide) (by decide) (by decide) (by decide) (by decide) (by decide), v2 _ (by decide) (by decide) (by decide) (by decide) (by decide) (by decide) (by decide) (by decide) (by decide) (by decide), ?_, ?_⟩
  · rw [u4 _ (by omega) (by omega) (by omega) (by omega) (by omega), u6 _ (by decide) (by decide) (by decide), rw_n (by decide)]; exact s1 b hb
  · rw [u4 _ (by omega) (by omega) (by omega) (by omega) (by omega), u6 _ (by decide) (by decide) (by decide), rw_n (by decide)]; exact s2 b hb
  · rw [ra, rb]; exact q7
  · rw [rc, rd]; exact q8
  · rw [rc]; exact q9
  · rw [r1, r2, r3, r4, r5, r6]
    by_cases c : 20 * x' + t' = 20 * x + t
    · have c1 : x' = x := by omega
      have c2 : t' = t := by omega
      subst c1 c2
      rw [hA]
      exact ⟨(rs_e rfl).trans (rs_e rfl).symm, ⟨rs_e rfl, rs_e rfl⟩, (rs_e rfl).trans (rs_e rfl).symm⟩
    · have hk' : K x' t' := by
        rcases hk with ⟨g1, g2⟩ | g
        · exact absurd (by rw [g1, g2]) c
        · exact g
      obtain ⟨g1, ⟨g2, g3⟩, g4⟩ := hK x' t' hx' ht' hk'
      exact ⟨(rs_n c).trans (g1.trans (rs_n c).symm), ⟨(rs_n c).trans g2, (rs_n c).trans g3⟩, (rs_n c).trans (g4.trans (rs_n c).symm)⟩
  · rw [ra, q2 q g1 g2, fd1 a (by omega) (by omega) (by omega)]
  · rw [rc, q3 a' k g]; rfl
  · rw [rb, q5 q g1, fe1 83 (by decide) (by decide)]
  · rw [rd, q6 a' k g]; rfl
  · exact yr_tr1 hC h.2.1 ha hx ht hn hA hwd hv hvA rfl sup1 q1 q1' q10 q11 s4 s8 u8
  · exact yr_tr2 h hx ht hn hA hwd hv hvA sup2 q12 s9 u9
end
