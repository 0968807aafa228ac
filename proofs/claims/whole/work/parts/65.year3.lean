/-! The year: mixed, handed out -/
section
variable {d e : ya_D} {M M' : pm_M} {a : Nat}
/-- two places change -/
def pv_sw (o : Nat → Nat) (p q : Nat) : Nat → Nat := pn_up (pn_up o p (o q)) q (o p)
theorem pv_sw_sum {o f : Nat → Nat} {p q m : Nat} (hp : p < m) (hq : q < m) : pn_sum (fun j => f (pv_sw o p q j)) m = pn_sum (fun j => f (o j)) m := by
  have e : (fun j => f (pv_sw o p q j)) = pn_up (pn_up (fun j => f (o j)) p (f (o q))) q (f (o p)) := by
    funext j
    unfold pv_sw pn_up
    split
    · rfl
    · split <;> rfl
  rw [e]
  have h1 := pn_sum_up (f := pn_up (fun j => f (o j)) p (f (o q))) (i := q) (v := f (o p)) m hq
  have h2 := pn_sum_up (f := fun j => f (o j)) (i := p) (v := f (o q)) m hp
  have h3 : pn_up (fun j => f (o j)) p (f (o q)) q = f (o q) := by
    unfold pn_up
    split <;> rfl
  omega
/-- x, drawn once more -/
def pv_x (x : Int64) : Int64 := 1103515245 * x + 12345 - (1103515245 * x + 12345) / 2147483648 * 2147483648
theorem pv_draw1 (n : Nat) (hn : n < 2 ^ 31) (h0 : 0 < n) : f_X10_draw a (nI n) d = (ya_lrm (pv_x (d.2 a 16) / 65536) (nI n).toInt64).bind fun y => some (y.toInt32, ya_sL d a 16 (pv_x (d.2 a 16))) := by
  unfold f_X10_draw
  rw [ya_pL, Option.bind_some, if_neg (nI_nle h0 hn), pn_sL, if_pos ⟨rfl, rfl⟩]
  rfl
theorem pv_draw2 (n : Nat) : f_X12_draw (nI n) e = (ya_lrm (pv_x (e.2 83 28) / 65536) (nI n).toInt64).bind fun y => some (y.toInt32, ya_sL e 83 28 (pv_x (e.2 83 28))) := by
  unfold f_X12_draw
  rw [ya_pL, Option.bind_some, pn_sL, if_pos ⟨rfl, rfl⟩]
  rfl
/-- x stays below 2 ^ 31 when it began so -/
theorem pv_x_N {X : Nat} (hX : X < 2 ^ 31) : pv_x (lN X) = lN ((1103515245 * X + 12345) % 2147483648) := by
  unfold pv_x
  rw [show (1103515245 : Int64) = lN 1103515245 from rfl, show (12345 : Int64) = lN 12345 from rfl, show (2147483648 : Int64) = lN 2147483648 from rfl, lN_mul, lN_add, pk_lRem (by omega) (by omega) (by omega)]
theorem pv_x_ex (x : Int64) (n : Nat) (hn : n < 2 ^ 31) (h0 : 0 < n) (hx : ∃ X, X < 2 ^ 31 ∧ x = lN X) : (∃ X, X < 2 ^ 31 ∧ pv_x x = lN X) ∧ ∃ k y, k < n ∧ ya_lrm (pv_x x / 65536) (nI n).toInt64 = some y ∧ y.toInt32 = nI k := by
  obtain ⟨X, hX, rfl⟩ := hx
  have hm : (1103515245 * X + 12345) % 2147483648 < 2147483648 := Nat.mod_lt _ (by omega)
  rw [pv_x_N hX]
  generalize (1103515245 * X + 12345) % 2147483648 = Y at hm ⊢
  have hdiv : Y / 65536 ≤ Y := Nat.div_le_self _ _
  refine ⟨⟨Y, by omega, rfl⟩, Y / 65536 % n, lN (Y / 65536 % n), Nat.mod_lt _ h0, ?_, lN_i _⟩
  unfold ya_lrm
  rw [nI_l hn, show (65536 : Int64) = lN 65536 from rfl, pk_lDiv (by omega) (by omega) (by omega), if_neg (show ¬ lN n = 0 from fun q => by
    have := (pk_lEQ (a := n) (b := 0) (by omega) (by omega)).mp q
    omega), pk_lRem (by omega) h0 (by omega)]
theorem pn_sum_one {f : Nat → Nat} {b : Nat} : ∀ n, b < n → (∀ i, i < n → i ≠ b → f i = 0) → pn_sum f n = f b
  | 0, h, _ => by omega
  | n + 1, h, hz => by
    rw [pn_sum]
    by_cases c : n = b
    · subst c
      rw [pn_sum_0 n (fun i hi => hz i (by omega) (by omega))]; omega
    · rw [pn_sum_one n (by omega) (fun i hi => hz i (by omega)), hz n (by omega) c]; omega
theorem yr_mix {x t m : Nat} {o : Nat → Nat} (ha : 42 ≤ a) (ho : yr_o M a x t m o d e (M 0 5)) (hb : M 0 5 ≤ 7) (hx : d.2 a 16 = e.2 83 28) (hX : ∃ X, X < 2 ^ 31 ∧ d.2 a 16 = lN X) :
    ∃ d' e' o', yr_o M a x t m o' d' e' (M 0 5) ∧ (∀ a', a' ≠ a + 14 → d'.1 a' = d.1 a') ∧ (∀ a' k, a' ≠ a ∨ k ≠ 16 → d'.2 a' k = d.2 a' k) ∧ (∀ a', a' ≠ 101 → e'.1 a' = e.1 a') ∧ (∀ a' k, a' ≠ 83 ∨ k ≠ 28 → e'.2 a' k = e.2 a' k) ∧ d'.2 a 16 = e'.2 83 28 ∧ (∃ X, X < 2 ^ 31 ∧ d'.2 a 16 = lN X) ∧ f_X10_mix a d = some d' ∧ f_X12_standIn_L55 (nI 1) (nI m) ya_F (nI m - 1) e = some (nI m, e') := by
  obtain ⟨o1, o2, o3, o4, o5⟩ := ho
  unfold f_X10_mix
  rw [o3]
  rcases Nat.eq_zero_or_pos m with hm | hm
  · subst hm
    refine ⟨d, e, o, ⟨o1, o2, o3, o4, o5⟩, fun _ _ => rfl, fun _ _ _ => rfl, fun _ _ => rfl, fun _ _ _ => rfl, hx, hX, ?_, ?_⟩
    · show f_X10_mix_L7 a (9999 + 1) _ d = _
      rw [f_X10_mix_L7, if_pos (by decide)]
    · show f_X12_standIn_L55 _ _ (9999 + 1) _ e = _
      rw [f_X12_standIn_L55, if_pos (by decide)]
  · have e1 : nI m - 1 = nI (m - 1 - 0) := by rw [pl_1, pn_sub (by omega)]; rfl
    rw [e1]
    have key := pq_lp2 (G := fun fu i (d : ya_D) => f_X10_mix_L7 a fu (nI (m - 1 - i)) d) (E := some) (G' := fun fu i (e : ya_D) => f_X12_standIn_L55 (nI 1) (nI m) fu (nI (m - 1 - i)) e) (E' := fun (e : ya_D) => some (nI m, e)) (n := m - 1)
      (I := fun i d' e' => ∃ o', yr_o M a x t m o' d' e' (M 0 5) ∧ (∀ a', a' ≠ a + 14 → d'.1 a' = d.1 a') ∧ (∀ a' k, a' ≠ a ∨ k ≠ 16 → d'.2 a' k = d.2 a' k) ∧ (∀ a', a' ≠ 101 → e'.1 a' = e.1 a') ∧ (∀ a' k, a' ≠ 83 ∨ k ≠ 28 → e'.2 a' k = e.2 a' k) ∧ d'.2 a 16 = e'.2 83 28 ∧ (∃ X, X < 2 ^ 31 ∧ d'.2 a 16 = lN X))
      (Q := fun d' e' => ∃ o', yr_o M a x t m o' d' e' (M 0 5) ∧ (∀ a', a' ≠ a + 14 → d'.1 a' = d.1 a') ∧ (∀ a' k, a' ≠ a ∨ k ≠ 16 → d'.2 a' k = d.2 a' k) ∧ (∀ a', a' ≠ 101 → e'.1 a' = e.1 a') ∧ (∀ a' k, a' ≠ 83 ∨ k ≠ 28 → e'.2 a' k = e.2 a' k) ∧ d'.2 a 16 = e'.2 83 28 ∧ (∃ X, X < 2 ^ 31 ∧ d'.2 a 16 = lN X))
      (fun fu d' e' hI => ?_) (fun fu i d' e' hi hI => ?_) ya_F 0 d e (by omega) (by unfold ya_F; omega) ⟨o, ⟨o1, o2, o3, o4, o5⟩, fun _ _ => rfl, fun _ _ _ => rfl, fun _ _ => rfl, fun _ _ _ => rfl, hx, hX⟩
    · obtain ⟨d', e', ⟨o', q1, q2, q3, q4, q5, q6, q7⟩, k1, k2⟩ := key
      exact ⟨d', e', o', q1, q2, q3, q4, q5, q6, q7, k1, k2⟩
    · refine ⟨d', e', hI, ?_, ?_⟩
      · show f_X10_mix_L7 _ (fu + 1) _ _ = _
        rw [f_X10_mix_L7, show m - 1 - (m - 1) = 0 by omega, if_pos (by decide)]
      · show f_X12_standIn_L55 _ _ (fu + 1) _ _ = _
        rw [f_X12_standIn_L55, show m - 1 - (m - 1) = 0 by omega, if_pos (by decide)]
    · obtain ⟨o', ⟨p1, p2, p3, p4, p5⟩, q2, q3, q4, q5, q6, q7⟩ := hI
      obtain ⟨hX', k, y, hk, hy, hyk⟩ := pv_x_ex (d'.2 a 16) (m - 1 - i + 1) (by omega) (by omega) q7
      obtain ⟨u0, u1, u2⟩ := p4 (m - 1 - i) (by omega)
      obtain ⟨v0, v1, v2⟩ := p4 k (by omega)
      refine ⟨ya_sI (ya_sI (ya_sL d' a 16 (pv_x (d'.2 a 16))) (a + 14) (m - 1 - i) (nI (o' k))) (a + 14) k (nI (o' (m - 1 - i))), ya_sI (ya_sI (ya_sL e' 83 28 (pv_x (d'.2 a 16))) 101 (m - 1 - i) (nI (o' k))) 101 k (nI (o' (m - 1 - i))), ⟨pv_sw o' (m - 1 - i) k, ⟨p1, p2, ?_, fun j hj => ?_, fun f => ?_⟩, fun a' h1 => ?_, fun a' k' h1 => ?_, fun a' h1 => ?_, fun a' k' h1 => ?_, ?_, ?_⟩, ?_, ?_⟩
      · exact (pn_o (by omega)).trans ((pn_o (by omega)).trans p3)
      · unfold pv_sw
        obtain ⟨w0, w1, w2⟩ := p4 j hj
        by_cases c1 : j = k
        · rw [c1, pn_upe]
          exact ⟨u0, pn_e ⟨rfl, rfl⟩, pn_e ⟨rfl, rfl⟩⟩
        · rw [pn_upn c1]
          by_cases c2 : j = m - 1 - i
          · rw [c2, pn_upe]
            exact ⟨v0, (pn_o (by omega)).trans (pn_e ⟨rfl, rfl⟩), (pn_o (by omega)).trans (pn_e ⟨rfl, rfl⟩)⟩
          · rw [pn_upn c2]
            exact ⟨w0, (pn_o (by omega)).trans ((pn_o (by omega)).trans w1), (pn_o (by omega)).trans ((pn_o (by omega)).trans w2)⟩
      · rw [pv_sw_sum (by omega) (by omega)]; exact p5 f
      · exact (rw_n h1).trans ((rw_n h1).trans (q2 a' h1))
      · show (ya_sL d' a 16 (pv_x (d'.2 a 16))).2 a' k' = _
        rw [pn_sL, if_neg (by omega)]; exact q3 a' k' h1
      · exact (rw_n h1).trans ((rw_n h1).trans (q4 a' h1))
      · show (ya_sL e' 83 28 (pv_x (d'.2 a 16))).2 a' k' = _
        rw [pn_sL, if_neg (by omega)]; exact q5 a' k' h1
      · show (ya_sL d' a 16 (pv_x (d'.2 a 16))).2 a 16 = (ya_sL e' 83 28 (pv_x (d'.2 a 16))).2 83 28
        rw [pn_sL, pn_sL, if_pos ⟨rfl, rfl⟩, if_pos ⟨rfl, rfl⟩]
      · show ∃ X, X < 2 ^ 31 ∧ (ya_sL d' a 16 (pv_x (d'.2 a 16))).2 a 16 = lN X
        rw [pn_sL, if_pos ⟨rfl, rfl⟩]
        exact hX'
      · show f_X10_mix_L7 _ (fu + 1) _ _ = f_X10_mix_L7 _ fu _ _
        rw [f_X10_mix_L7, if_neg (show ¬ nI (m - 1 - i) < (1 : Int32) from nI_nlt (a := m - 1 - i) (b := 1) (by omega) (by omega)), nI_1, pv_draw1 _ (by omega) (by omega), hy, Option.bind_some, ya_b2s, hyk]
        have e2 : nI (m - 1 - i) + (-1) = nI (m - 1 - (i + 1)) := by rw [show m - 1 - i = (m - 1 - (i + 1)) + 1 by omega, pk_m1]
        rw [e2]
        simp (disch := omega) only [pl_0, pl_1, pl_2, pl_3, pl_4, pl_5, pl_6, pl_7, pl_8, pl_9, pl_10, pl_11, pl_12, pl_20, pl_24, pl_30, pl_31, pl_60, pl_99, pl_100, pl_111, pl_211, pl_311, pl_326, pl_400, pl_426, pb_s, ya_b2s, pj_0, pj_1, pj_2, pj_3, pb_pI, pb_pL, pm_cell1, pm_cell2, nI_add, pn_mul, pn_sub, pn_rI, pn_wI, pn_eq, pn_le, pn_lt, pm_min, pn_o, pn_e, pn_sI2, Nat.zero_add, Nat.add_zero, pn_sL1, u1, v1]
      · show f_X12_standIn_L55 _ _ (fu + 1) _ _ = f_X12_standIn_L55 _ _ fu _ _
        rw [f_X12_standIn_L55, if_neg (nI_nle (by omega) (by omega)), if_neg (by decide), nI_1, pv_draw2, ← q6, hy, Option.bind_some, ya_b2s, hyk]
        have e2 : nI (m - 1 - i) + (-1) = nI (m - 1 - (i + 1)) := by rw [show m - 1 - i = (m - 1 - (i + 1)) + 1 by omega, pk_m1]
        rw [e2]
        simp (disch := omega) only [pl_0, pl_1, pl_2, pl_3, pl_4, pl_5, pl_6, pl_7, pl_8, pl_9, pl_10, pl_11, pl_12, pl_20, pl_24, pl_30, pl_31, pl_60, pl_99, pl_100, pl_111, pl_211, pl_311, pl_326, pl_400, pl_426, pb_s, ya_b2s, pj_0, pj_1, pj_2, pj_3, pb_pI, pb_pL, pm_cell1, pm_cell2, nI_add, pn_mul, pn_sub, pn_rI, pn_wI, pn_eq, pn_le, pn_lt, pm_min, pn_o, pn_e, pn_sI2, Nat.zero_add, Nat.add_zero, pn_sL1, u2, v2]
/-- handed out: as much as there still is -/
theorem yr_hand (hC : pm_C d 24 M) (h : ys e M M') {x t m n : Nat} {o p : Nat → Nat} (ha : 42 ≤ a) (hx : x < M 0 3) (ht : t < M 0 1) (hn : n < 2 ^ 31) (ho : yr_o M a x t m o d e (M 0 5)) (h12 : ∀ b, b < M 0 5 → d.1 (a + 12) b = e.1 98 b) (h13 : ∀ b, b < M 0 5 → d.1 (a + 13) b = nI (p b) ∧ e.1 99 b = nI (p b)) (k : Int32 → ya_D → Option ya_D) :
    ∃ (d' e' : ya_D) (p' : Nat → Nat), (∀ b, b < M 0 5 → d'.1 (a + 12) b = e'.1 98 b) ∧ (∀ b, b < M 0 5 → d'.1 (a + 13) b = nI (p' b) ∧ e'.1 99 b = nI (p' b)) ∧ (∀ b, b < M 0 5 → p' b ≤ p b + if pm_co M x t (M 2 (20 * x + t)) b then M 10 b else 0) ∧ (n ≥ pm_wd M x t (M 2 (20 * x + t)) (M 0 5) → ∀ b, b < M 0 5 → p' b = p b + if pm_co M x t (M 2 (20 * x + t)) b then M 10 b else 0) ∧ (∀ a', a' ≠ a + 12 → a' ≠ a + 13 → d'.1 a' = d.1 a') ∧ d'.2 = d.2 ∧ (∀ a', a' ≠ 98 → a' ≠ 99 → e'.1 a' = e.1 a') ∧ e'.2 = e.2 ∧ f_X10_handOut a 35 (nI n) (nI (M 2 (20 * x + t))) d = some d' ∧ f_X12_sellsOn_L125 (nI x) (nI t) (nI n) (nI m) k ya_F (nI n) (nI 0) e = k (nI (n - pm_wd M x t (M 2 (20 * x + t)) (M 0 5))) e' := by
  obtain ⟨⟨b0, b1, b2, b3, b4, b5⟩, -, w2, -, -, w5⟩ := pk_w h.2.1
  have hp := w2 x t hx ht
  obtain ⟨o1, o2, o3, o4, o5⟩ := ho
  have hsum : pn_sum (fun j => M 10 (o j)) m = pm_wd M x t (M 2 (20 * x + t)) (M 0 5) := o5 (M 10)
  have key := pq_lp2 (G := fun fu i (s : Nat × ya_D) => f_X10_handOut_L6 a 35 (nI (M 2 (20 * x + t))) fu (nI s.1) (nI i) s.2) (E := some) (G' := fun fu i (s : Nat × ya_D) => f_X12_sellsOn_L125 (nI x) (nI t) (nI n) (nI m) k fu (nI s.1) (nI i) s.2) (E' := fun (e : ya_D) => k (nI (n - pm_wd M x t (M 2 (20 * x + t)) (M 0 5))) e) (n := m)
    (I := fun i s s' => s.1 = n - pn_sum (fun j => M 10 (o j)) i ∧ s'.1 = s.1 ∧ ∃ p' : Nat → Nat, (∀ b, b < M 0 5 → s.2.1 (a + 12) b = s'.2.1 98 b) ∧ (∀ b, b < M 0 5 → s.2.1 (a + 13) b = nI (p' b) ∧ s'.2.1 99 b = nI (p' b)) ∧ (∀ b, b < M 0 5 → p' b ≤ p b + pn_sum (fun j => if o j = b then M 10 b else 0) i) ∧ (n ≥ pn_sum (fun j => M 10 (o j)) i → ∀ b, b < M 0 5 → p' b = p b + pn_sum (fun j => if o j = b then M 10 b else 0) i) ∧ (∀ a', a' ≠ a + 12 → a' ≠ a + 13 → s.2.1 a' = d.1 a') ∧ s.2.2 = d.2 ∧ (∀ a', a' ≠ 98 → a' ≠ 99 → s'.2.1 a' = e.1 a') ∧ s'.2.2 = e.2)
    (Q := fun d' e' => ∃ p' : Nat → Nat, (∀ b, b < M 0 5 → d'.1 (a + 12) b = e'.1 98 b) ∧ (∀ b, b < M 0 5 → d'.1 (a + 13) b = nI (p' b) ∧ e'.1 99 b = nI (p' b)) ∧ (∀ b, b < M 0 5 → p' b ≤ p b + pn_sum (fun j => if o j = b then M 10 b else 0) m) ∧ (n ≥ pn_sum (fun j => M 10 (o j)) m → ∀ b, b < M 0 5 → p' b = p b + pn_sum (fun j => if o j = b then M 10 b else 0) m) ∧ (∀ a', a' ≠ a + 12 → a' ≠ a + 13 → d'.1 a' = d.1 a') ∧ d'.2 = d.2 ∧ (∀ a', a' ≠ 98 → a' ≠ 99 → e'.1 a' = e.1 a') ∧ e'.2 = e.2)
    (fun fu s s' hI => ?_) (fun fu i s s' hi hI => ?_) ya_F 0 (n, d) (n, e) (by omega) (by unfold ya_F; omega) ⟨by simp only [pn_sum]; omega, rfl, p, h12, h13, fun b _ => by simp only [pn_sum]; omega, fun _ b _ => by simp only [pn_sum]; omega, fun _ _ _ => rfl, rfl, fun _ _ _ => rfl, rfl⟩
  · obtain ⟨d', e', ⟨p', q1, q2, q3, q3', q4, q5, q6, q7⟩, k1, k2⟩ := key
    have hcount : ∀ b, b < M 0 5 → pn_sum (fun j => if o j = b then M 10 b else 0) m = if pm_co M x t (M 2 (20 * x + t)) b then M 10 b else 0 := by
      intro b hb
      rw [o5 (fun j => if j = b then M 10 b else 0), pn_sum_one (b := b) (M 0 5) hb (fun i hi hib => by rw [if_neg hib]; split <;> rfl), if_pos rfl]
    refine ⟨d', e', p', q1, q2, fun b hb => ?_, fun hh b hb => ?_, q4, q5, q6, q7, ?_, k2⟩
    · have := q3 b hb
      rw [hcount b hb] at this
      exact this
    · have := q3' (by omega) b hb
      rw [hcount b hb] at this
      exact this
    · unfold f_X10_handOut
      exact k1
  · obtain ⟨h1, h2, p', q1, q2, q3, q3', q4, q5, q6, q7⟩ := hI
    refine ⟨s.2, s'.2, ⟨p', q1, q2, q3, q3', q4, q5, q6, q7⟩, ?_, ?_⟩
    · show f_X10_handOut_L6 _ _ _ (fu + 1) _ _ _ = _
      rw [f_X10_handOut_L6, q4 a (by omega) (by omega), o3, if_pos (nI_le (Nat.le_refl _) (by omega))]
    · show f_X12_sellsOn_L125 _ _ _ _ _ (fu + 1) _ _ _ = _
      rw [f_X12_sellsOn_L125, if_pos (nI_le (Nat.le_refl _) (by omega)), h2, h1, hsum]
  · obtain ⟨h1, h2, p', q1, q2, q3, q3', q4, q5, q6, q7⟩ := hI
    obtain ⟨s1, s2⟩ := s
    obtain ⟨t1, t2⟩ := s'
    simp only at h1 h2 q1 q2 q4 q5 q6 q7
    subst h2
    obtain ⟨u0, u1, u2⟩ := o4 i hi
    obtain ⟨v0, v1⟩ := q2 (o i) u0
    have v2 := q1 (o i) u0
    have hw10 := w5 (o i) u0
    have r1 : s2.1 (a + 14) i = nI (o i) := by rw [q4 (a + 14) (by omega) (by omega)]; exact u1
    have r2 : t2.1 101 i = nI (o i) := by rw [q6 101 (by omega) (by omega)]; exact u2
    have r3 : s2.1 37 (o i) = nI (M 10 (o i)) := by rw [q4 37 (by omega) (by omega)]; exact ((pk_c hC).2.2.2.2.2.2.2.2.2.2 (o i) u0).2.1
    have r4 : s2.1 a 14 = nI m := by rw [q4 a (by omega) (by omega)]; exact o3
    have hq : ys t2 M M' := ys_c h (q6 84 (by decide) (by decide))
    have hs : pn_sum (fun j => M 10 (o j)) (i + 1) = pn_sum (fun j => M 10 (o j)) i + M 10 (o i) := rfl
    have hle := pn_sum_m (f := fun j => M 10 (o j)) (m := i + 1) m hi
    have hwd := pm_wd_le h.2.1 (x := x) (t := t) (y := M 2 (20 * x + t)) (n := M 0 5) (Nat.le_refl _)
    refine ⟨(t1 - min t1 (M 10 (o i)), ya_sI (ya_sI s2 (a + 13) (o i) (nI (p' (o i) + min t1 (M 10 (o i))))) (a + 12) (o i) (t2.1 98 (o i) + nI (min t1 (M 10 (o i)) * M 2 (20 * x + t)))), (t1 - min t1 (M 10 (o i)), ya_sI (ya_sI t2 99 (o i) (nI (p' (o i) + min t1 (M 10 (o i))))) 98 (o i) (t2.1 98 (o i) + nI (min t1 (M 10 (o i)) * M 2 (20 * x + t)))), ⟨by show t1 - min t1 (M 10 (o i)) = _; omega, rfl, pn_up p' (o i) (p' (o i) + min t1 (M 10 (o i))), fun b hb => ?_, fun b hb => ?_, fun b hb => ?_, fun hh b hb => ?_, fun a' g1 g2 => (rw_n g1).trans ((rw_n g2).trans (q4 a' g1 g2)), q5, fun a' g1 g2 => (rw_n g1).trans ((rw_n g2).trans (q6 a' g1 g2)), q7⟩, ?_, ?_⟩
    · by_cases c : b = o i
      · subst c
        exact (pn_e ⟨rfl, rfl⟩).trans (pn_e ⟨rfl, rfl⟩).symm
      · exact (pn_o (by omega)).trans ((pn_o (by omega)).trans ((q1 b hb).trans ((pn_o (by omega)).trans (pn_o (by omega))).symm))
    · by_cases c : b = o i
      · subst c
        rw [pn_upe]
        exact ⟨(pn_o (by omega)).trans (pn_e ⟨rfl, rfl⟩), (pn_o (by omega)).trans (pn_e ⟨rfl, rfl⟩)⟩
      · rw [pn_upn c]
        exact ⟨(pn_o (by omega)).trans ((pn_o (by omega)).trans (q2 b hb).1), (pn_o (by omega)).trans ((pn_o (by omega)).trans (q2 b hb).2)⟩
    · have g3 := q3 b hb
      rw [pn_sum]
      by_cases c : b = o i
      · subst c
        rw [pn_upe, if_pos rfl]; omega
      · rw [pn_upn c]; omega
    · have g3 := q3' (by omega) b hb
      rw [pn_sum]
      by_cases c : b = o i
      · subst c
        rw [pn_upe, if_pos rfl]; omega
      · rw [pn_upn c, if_neg (fun q => c q.symm)]; omega
    · show f_X10_handOut_L6 _ _ _ (fu + 1) _ _ _ = f_X10_handOut_L6 _ _ _ fu _ _ _
      rw [f_X10_handOut_L6, r4, if_neg (nI_ge hi (by omega))]
      simp (disch := omega) only [pl_0, pl_1, pl_2, pl_3, pl_4, pl_5, pl_6, pl_7, pl_8, pl_9, pl_10, pl_11, pl_12, pl_20, pl_24, pl_30, pl_31, pl_60, pl_99, pl_100, pl_111, pl_211, pl_311, pl_326, pl_400, pl_426, pb_s, ya_b2s, pj_0, pj_1, pj_2, pj_3, pb_pI, pb_pL, pm_cell1, pm_cell2, nI_add, pn_mul, pn_sub, pn_rI, pn_wI, pn_eq, pn_le, pn_lt, pm_min, pn_o, pn_e, pn_sI2, Nat.zero_add, Nat.add_zero, Nat.reduceAdd, r1, r3, v0, v2]
    · show f_X12_sellsOn_L125 _ _ _ _ _ (fu + 1) _ _ _ = f_X12_sellsOn_L125 _ _ _ _ _ fu _ _ _
      rw [f_X12_sellsOn_L125, if_neg (nI_ge hi (by omega))]
      simp (disch := omega) only [pl_0, pl_1, pl_2, pl_3, pl_4, pl_5, pl_6, pl_7, pl_8, pl_9, pl_10, pl_11, pl_12, pl_20, pl_24, pl_30, pl_31, pl_60, pl_99, pl_100, pl_111, pl_211, pl_311, pl_326, pl_400, pl_426, pb_s, ya_b2s, pj_0, pj_1, pj_2, pj_3, pb_pI, pb_pL, pm_cell1, pm_cell2, nI_add, pn_mul, pn_sub, pn_rI, pn_wI, pn_eq, pn_le, pn_lt, pm_min, pn_o, pn_e, pn_sI2, Nat.zero_add, Nat.add_zero, Nat.reduceAdd, r2, v1, ys_want hq u0, ys_price (ys_c hq (rw_n (show (84 : Nat) ≠ 99 by decide))) hx ht]
end
