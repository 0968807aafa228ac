/-! The year: sold -/
section
variable {d e : ya_D} {M M' : pm_M} {a : Nat}
/-- pieces of each seller, by the day on which they came, U s days begun -/
def yr_L (M : pm_M) (a : Nat) (U : Nat → Nat) (l : Nat → Nat → Nat) (d e : ya_D) : Prop :=
  (∀ s c, s < M 0 4 → c < U s → d.1 (a + 7) (20 * s + c) = nI (l s c)) ∧ (∀ s c, s < M 0 4 → c < 20 → e.1 90 (20 * s + c) = nI (l s c)) ∧ (∀ s, s < M 0 4 → d.1 (a + 8) s = nI (pn_sum (l s) (M 0 1))) ∧ (∀ s c, l s c ≤ 198) ∧ (∀ s c, s < M 0 4 → U s ≤ c → l s c = 0) ∧ (∀ s c, s < M 0 4 → c + M 1 (M 5 s) + 1 < U s → l s c = 0)
/-- what each seller gets on a day, T s days traded -/
def yr_G (M : pm_M) (a : Nat) (T : Nat → Nat) (g : Nat → Nat → Nat) (d e : ya_D) : Prop :=
  (∀ s t, s < M 0 4 → t < 20 → d.1 (a + 5) (20 * s + t) = nI (g s t) ∧ e.1 94 (20 * s + t) = nI (g s t)) ∧ (∀ s, s < M 0 4 → d.1 (a + 9) s = nI (pn_sum (g s) (M 0 1))) ∧ (∀ s t, g s t ≤ 400000) ∧ (∀ s t, s < M 0 4 → T s ≤ t → g s t = 0)
/-- the reference sells the pieces of one seller -/
theorem yr_refsell (h : ys e M M') {s x t n : Nat} {l : Nat → Nat} (hs : s < M 0 4) (hx : x < M 0 3) (ht : t < M 0 1) (hn : n < 2 ^ 31) (hl : ∀ c, l c ≤ 198) (h90 : ∀ c, c ≤ t → e.1 90 (20 * s + c) = nI (l c)) (ho : pm_of_ M x t s) (k : Int32 → ya_D → Option ya_D) :
    ∃ e', ((∀ c, c ≤ t → e'.1 90 (20 * s + c) = nI (pv_tk l n c)) ∧ (∀ q, q < 20 * s ∨ 20 * s + t < q → e'.1 90 q = e.1 90 q) ∧ e'.1 96 s = e.1 96 s + nI (min n (pn_sum l (t + 1))) ∧ (∀ q, q ≠ s → e'.1 96 q = e.1 96 q) ∧ e'.1 94 (20 * s + t) = e.1 94 (20 * s + t) + nI (min n (pn_sum l (t + 1)) * M 2 (20 * x + t)) ∧ (∀ q, q ≠ 20 * s + t → e'.1 94 q = e.1 94 q) ∧ (∀ a', a' ≠ 90 → a' ≠ 94 → a' ≠ 96 → e'.1 a' = e.1 a') ∧ e'.2 = e.2) ∧ f_X12_takes__L20 (nI x) (nI t) (nI s) k ya_F (nI n) (nI 0) e = k (nI (n - min n (pn_sum l (t + 1)))) e' := by
  obtain ⟨⟨b0, b1, b2, b3, b4, b5⟩, -, w2, -, -, w5⟩ := pk_w h.2.1
  have hp := w2 x t hx ht
  have key := pq_lp (G := fun fu i (σ : Nat × ya_D) => f_X12_takes__L20 (nI x) (nI t) (nI s) k fu (nI σ.1) (nI i) σ.2) (E := fun (σ : Nat × ya_D) => k (nI σ.1) σ.2) (n := t + 1)
    (I := fun i σ => σ.1 = n - pn_sum l i ∧ (∀ c, c < i → σ.2.1 90 (20 * s + c) = nI (pv_tk l n c)) ∧ (∀ c, i ≤ c → c ≤ t → σ.2.1 90 (20 * s + c) = nI (l c)) ∧ (∀ q, q < 20 * s ∨ 20 * s + t < q → σ.2.1 90 q = e.1 90 q) ∧ σ.2.1 96 s = e.1 96 s + nI (min n (pn_sum l i)) ∧ (∀ q, q ≠ s → σ.2.1 96 q = e.1 96 q) ∧ σ.2.1 94 (20 * s + t) = e.1 94 (20 * s + t) + nI (min n (pn_sum l i) * M 2 (20 * x + t)) ∧ (∀ q, q ≠ 20 * s + t → σ.2.1 94 q = e.1 94 q) ∧ (∀ a', a' ≠ 90 → a' ≠ 94 → a' ≠ 96 → σ.2.1 a' = e.1 a') ∧ σ.2.2 = e.2)
    (Q := fun σ => σ.1 = n - pn_sum l (t + 1) ∧ (∀ c, c ≤ t → σ.2.1 90 (20 * s + c) = nI (pv_tk l n c)) ∧ (∀ q, q < 20 * s ∨ 20 * s + t < q → σ.2.1 90 q = e.1 90 q) ∧ σ.2.1 96 s = e.1 96 s + nI (min n (pn_sum l (t + 1))) ∧ (∀ q, q ≠ s → σ.2.1 96 q = e.1 96 q) ∧ σ.2.1 94 (20 * s + t) = e.1 94 (20 * s + t) + nI (min n (pn_sum l (t + 1)) * M 2 (20 * x + t)) ∧ (∀ q, q ≠ 20 * s + t → σ.2.1 94 q = e.1 94 q) ∧ (∀ a', a' ≠ 90 → a' ≠ 94 → a' ≠ 96 → σ.2.1 a' = e.1 a') ∧ σ.2.2 = e.2)
    (fun fu σ hI => ?_) (fun fu i σ hi hI => ?_) ya_F 0 (n, e) (by omega) (by unfold ya_F; omega) ⟨by simp only [pn_sum]; omega, fun c hc => by omega, fun c _ hc => h90 c hc, fun _ _ => rfl, by simp only [pn_sum, Nat.min_zero, nI_z], fun _ _ => rfl, by simp only [pn_sum, Nat.min_zero, Nat.zero_mul, nI_z], fun _ _ => rfl, fun _ _ _ _ => rfl, rfl⟩
  · obtain ⟨σ, ⟨q1, q2⟩, k1⟩ := key
    refine ⟨σ.2, q2, k1.trans ?_⟩
    rw [q1, show n - pn_sum l (t + 1) = n - min n (pn_sum l (t + 1)) by omega]
  · obtain ⟨e1, e2, e3, e4, e5, e6, e7, e8, e9, e10⟩ := hI
    refine ⟨σ, ⟨e1, fun c hc => e2 c (by omega), e4, e5, e6, e7, e8, e9, e10⟩, ?_⟩
    show f_X12_takes__L20 _ _ _ _ (fu + 1) _ _ _ = _
    rw [f_X12_takes__L20, if_pos (nI_lt (by omega) (by omega))]
  · right
    obtain ⟨σ1, σ2⟩ := σ
    obtain ⟨e1, e2, e3, e4, e5, e6, e7, e8, e9, e10⟩ := hI
    simp only at e1 e2 e3 e4 e5 e6 e7 e8 e9 e10
    have hli := hl i
    have hsum : pn_sum l (i + 1) = pn_sum l i + l i := rfl
    have hmin : min n (pn_sum l (i + 1)) = min n (pn_sum l i) + min σ1 (l i) := by omega
    have hz : l i - min σ1 (l i) = pv_tk l n i := by unfold pv_tk; omega
    have hq : ys σ2 M M' := ys_c h (e9 84 (by decide) (by decide) (by decide))
    have r0 := e3 i (Nat.le_refl _) (by omega)
    refine ⟨(σ1 - min σ1 (l i), ya_sI (ya_sI (ya_sI σ2 90 (20 * s + i) (nI (pv_tk l n i))) 96 s (e.1 96 s + nI (min n (pn_sum l (i + 1))))) 94 (20 * s + t) (e.1 94 (20 * s + t) + nI (min n (pn_sum l (i + 1)) * M 2 (20 * x + t)))), ⟨by show σ1 - min σ1 (l i) = _; omega, fun c hc => ?_, fun c hc1 hc2 => ?_, fun q hq => ?_, ?_, fun q hq => ?_, ?_, fun q hq => ?_, fun a' g1 g2 g3 => ?_, e10⟩, ?_⟩
    · by_cases q : c = i
      · rw [q]
        exact (pn_o (by omega)).trans ((pn_o (by omega)).trans (pn_e ⟨rfl, rfl⟩))
      · exact (pn_o (by omega)).trans ((pn_o (by omega)).trans ((pn_o (by omega)).trans (e2 c (by omega))))
    · exact (pn_o (by omega)).trans ((pn_o (by omega)).trans ((pn_o (by omega)).trans (e3 c (by omega) hc2)))
    · exact (pn_o (by omega)).trans ((pn_o (by omega)).trans ((pn_o (by omega)).trans (e4 q hq)))
    · exact (pn_o (by omega)).trans (pn_e ⟨rfl, rfl⟩)
    · exact (pn_o (by omega)).trans ((pn_o (by omega)).trans ((pn_o (by omega)).trans (e6 q hq)))
    · exact pn_e ⟨rfl, rfl⟩
    · exact (pn_o (by omega)).trans ((pn_o (by omega)).trans ((pn_o (by omega)).trans (e8 q hq)))
    · exact (rw_n g2).trans ((rw_n g3).trans ((rw_n g1).trans (e9 a' g1 g2 g3)))
    · show f_X12_takes__L20 _ _ _ _ (fu + 1) _ _ _ = f_X12_takes__L20 _ _ _ _ fu _ _ _
      have hq2 : ys (ya_sI (ya_sI σ2 90 (20 * s + i) (nI (l i - min σ1 (l i)))) 96 s (σ2.1 96 s + nI (min σ1 (l i)))) M M' := ys_c hq ((rw_n (by decide)).trans (rw_n (by decide)))
      rw [f_X12_takes__L20, if_neg (nI_nlt (by omega) (by omega)), ys_offers hq hs hx ht, if_pos ho]
      simp (disch := omega) only [pl_0, pl_1, pl_2, pl_3, pl_4, pl_5, pl_6, pl_7, pl_8, pl_9, pl_10, pl_11, pl_12, pl_20, pl_24, pl_30, pl_31, pl_60, pl_99, pl_100, pl_111, pl_211, pl_311, pl_326, pl_400, pl_426, pb_s, ya_b2s, pj_0, pj_1, pj_2, pj_3, pb_pI, pb_pL, pm_cell1, pm_cell2, nI_add, pn_mul, pn_sub, pn_rI, pn_wI, pn_eq, pn_le, pn_lt, pm_min, pn_o, pn_e, pn_sI2, Nat.zero_add, Nat.add_zero, r0, if_false, Nat.one_ne_zero, ys_price hq2 hx ht]
      rw [e5, e7, nI_a, nI_a, ← Nat.add_mul, ← hmin, hz]
/-- sold by class and reference, the oldest of seller 0 first, then 1, .. -/
theorem yr_sell (hC : pm_C d 24 M) (h : ys e M M') {x t n : Nat} {T : Nat → Nat} {l g : Nat → Nat → Nat} (ha : 42 ≤ a) (hx : x < M 0 3) (ht : t < M 0 1) (hn : n < 2 ^ 31) (hL : yr_L M a (fun _ => t + 1) l d e) (hG : yr_G M a T g d e) (hT : ∀ s, M 5 s = x → T s ≤ t) (hS : ∀ s, s < M 0 4 → d.1 (a + 10) s = e.1 96 s) :
    ∃ (d' e' : ya_D) (l' g' : Nat → Nat → Nat), yr_L M a (fun _ => t + 1) l' d' e' ∧ yr_G M a (fun s => if M 5 s = x then t + 1 else T s) g' d' e' ∧ (∀ s, s < M 0 4 → d'.1 (a + 10) s = e'.1 96 s) ∧ (∀ a', a' ≠ a + 5 → a' ≠ a + 7 → a' ≠ a + 8 → a' ≠ a + 9 → a' ≠ a + 10 → d'.1 a' = d.1 a') ∧ d'.2 = d.2 ∧ (∀ a', a' ≠ 90 → a' ≠ 94 → a' ≠ 96 → e'.1 a' = e.1 a') ∧ e'.2 = e.2 ∧ f_X10_sell a 30 (nI x) (nI t) (nI n) (nI (M 2 (20 * x + t))) d = some d' ∧ f_X12_takes_ (nI x) (nI t) (nI n) e = some e' := by
  obtain ⟨⟨b0, b1, b2, b3, b4, b5⟩, -, w2, w3, -, w5⟩ := pk_w h.2.1
  have hp := w2 x t hx ht
  unfold f_X10_sell f_X12_takes_
  have key := pq_lp2 (G := fun fu i (s : Nat × ya_D) => f_X10_sell_L7 a 30 (nI x) (nI t) (nI (M 2 (20 * x + t))) fu (nI s.1) (nI i) s.2) (E := some) (G' := fun fu i (s : Nat × ya_D) => f_X12_takes__L6 (nI x) (nI t) fu (nI s.1) (nI i) s.2) (E' := some) (n := M 0 4)
    (I := fun i s s' => s.1 ≤ n ∧ s'.1 = s.1 ∧ ∃ l' g' : Nat → Nat → Nat, yr_L M a (fun _ => t + 1) l' s.2 s'.2 ∧ yr_G M a (fun s => if M 5 s = x ∧ s < i then t + 1 else T s) g' s.2 s'.2 ∧ (∀ q, q < M 0 4 → s.2.1 (a + 10) q = s'.2.1 96 q) ∧ (∀ a', a' ≠ a + 5 → a' ≠ a + 7 → a' ≠ a + 8 → a' ≠ a + 9 → a' ≠ a + 10 → s.2.1 a' = d.1 a') ∧ s.2.2 = d.2 ∧ (∀ a', a' ≠ 90 → a' ≠ 94 → a' ≠ 96 → s'.2.1 a' = e.1 a') ∧ s'.2.2 = e.2)
    (Q := fun d' e' => ∃ l' g' : Nat → Nat → Nat, yr_L M a (fun _ => t + 1) l' d' e' ∧ yr_G M a (fun s => if M 5 s = x then t + 1 else T s) g' d' e' ∧ (∀ q, q < M 0 4 → d'.1 (a + 10) q = e'.1 96 q) ∧ (∀ a', a' ≠ a + 5 → a' ≠ a + 7 → a' ≠ a + 8 → a' ≠ a + 9 → a' ≠ a + 10 → d'.1 a' = d.1 a') ∧ d'.2 = d.2 ∧ (∀ a', a' ≠ 90 → a' ≠ 94 → a' ≠ 96 → e'.1 a' = e.1 a') ∧ e'.2 = e.2)
    (fun fu s s' hI => ?_) (fun fu i s s' hi hI => ?_) ya_F 0 (n, d) (n, e) (by omega) (by unfold ya_F; omega) ⟨Nat.le_refl _, rfl, l, g, hL, ⟨hG.1, hG.2.1, hG.2.2.1, fun s t' hs ht' => hG.2.2.2 s t' hs (by dsimp only at ht'; rw [if_neg (show ¬ (M 5 s = x ∧ s < 0) by omega)] at ht'; exact ht')⟩, hS, fun _ _ _ _ _ _ => rfl, rfl, fun _ _ _ _ => rfl, rfl⟩
  · obtain ⟨d', e', ⟨l', g', q1, q2, q3, q4, q5, q6, q7⟩, k1, k2⟩ := key
    exact ⟨d', e', l', g', q1, q2, q3, q4, q5, q6, q7, k1, k2⟩
  · obtain ⟨h1, h2, l', g', q1, q2, q3, q4, q5, q6, q7⟩ := hI
    refine ⟨s.2, s'.2, ⟨l', g', q1, ⟨q2.1, q2.2.1, q2.2.2.1, fun s t' hs ht' => q2.2.2.2 s t' hs ?_⟩, q3, q4, q5, q6, q7⟩, ?_, ?_⟩
    · dsimp only at ht' ⊢
      by_cases c : M 5 s = x
      · rw [if_pos c] at ht'
        rw [if_pos ⟨c, hs⟩]; exact ht'
      · rw [if_neg c] at ht'
        rw [if_neg (fun q => c q.1)]; exact ht'
    · show f_X10_sell_L7 _ _ _ _ _ (fu + 1) _ _ _ = _
      rw [f_X10_sell_L7, q4 30 (by omega) (by omega) (by omega) (by omega) (by omega), (pk_c hC).2.2.2.2.1, if_pos (nI_le (Nat.le_refl _) (by omega))]
    · show f_X12_takes__L6 _ _ (fu + 1) _ _ _ = _
      have r2 := (ys_n (ys_c h (q6 84 (by decide) (by decide) (by decide)))).2.2.1
      rw [f_X12_takes__L6]
      simp (disch := omega) only [pl_0, pl_1, pl_2, pl_3, pl_4, pl_5, pl_6, pl_7, pl_8, pl_9, pl_10, pl_11, pl_12, pl_20, pl_24, pl_30, pl_31, pl_60, pl_99, pl_100, pl_111, pl_211, pl_311, pl_326, pl_400, pl_426, pb_s, ya_b2s, pj_0, pj_1, pj_2, pj_3, pb_pI, pb_pL, pm_cell1, pm_cell2, nI_add, pn_mul, pn_sub, pn_rI, pn_wI, pn_eq, pn_le, pn_lt, pm_min, pn_o, pn_e, pn_sI2, Nat.zero_add, Nat.add_zero, r2, Nat.le_refl, if_true]
  · obtain ⟨s1, d1⟩ := s
    obtain ⟨t1, e1⟩ := s'
    obtain ⟨h1, h2, l', g', q1, q2, q3, q4, q5, q6, q7⟩ := hI
    simp only at h1 h2 q1 q2 q3 q4 q5 q6 q7
    subst h2
    have hq : ys e1 M M' := ys_c h (q6 84 (by decide) (by decide) (by decide))
    have r2 := (ys_n hq).2.2.1
    have c4 : d1.1 30 0 = nI (M 0 4) := by rw [q4 30 (by omega) (by omega) (by omega) (by omega) (by omega)]; exact (pk_c hC).2.2.2.2.1
    obtain ⟨cs1, cs2, cs3⟩ := (pk_c hC).2.2.2.2.2.2.2.2.1 i hi
    have c31 : d1.1 31 i = nI (M 5 i) := by rw [q4 31 (by omega) (by omega) (by omega) (by omega) (by omega)]; exact cs1
    have c33 : d1.1 33 i = nI (M 7 i) := by rw [q4 33 (by omega) (by omega) (by omega) (by omega) (by omega)]; exact cs3
    have h3 := w3 i hi
    by_cases hof : pm_of_ M x t i
    · obtain ⟨L1, L2, L3, L4, L5, L6⟩ := q1
      obtain ⟨G1, G2, G3, G4⟩ := q2
      have hz : pn_sum (l' i) (M 0 1) = pn_sum (l' i) (t + 1) := pn_sum_x _ (by omega) (fun c h1 _ => L5 i c hi h1)
      have hle : pn_sum (l' i) (t + 1) ≤ 198 * (t + 1) := pn_sum_le _ (fun c _ => L4 i c)
      obtain ⟨d2, ⟨A1, A2, A3, A4⟩, A5⟩ := yr_take (d := d1) (a := a) (s := i) (t := t) (n := min t1 (pn_sum (l' i) (t + 1))) (l := l' i) (by omega) (by omega) (by omega) (L4 i) (fun c hc => L1 i c hi (Nat.lt_succ_of_le hc))
      obtain ⟨e2, ⟨B1, B2, B3, B4, B5, B6, B7, B8⟩, B9⟩ := yr_refsell hq hi hx ht (show t1 < 2 ^ 31 by omega) (L4 i) (fun c hc => L2 i c hi (by omega)) hof (fun v4_121 d_121 => f_X12_takes__L6 (nI x) (nI t) fu v4_121 (nI i + 1) d_121)
      have hg0 : g' i t = 0 := by
        refine G4 i t hi ?_
        dsimp only
        rw [if_neg (show ¬ (M 5 i = x ∧ i < i) by omega)]
        exact hT i hof.1
      have h8 : d1.1 (a + 8) i = nI (pn_sum (l' i) (t + 1)) := by rw [L3 i hi, hz]
      have hd2 : ya_rI e1 84 468 2 = some (nI (M 0 4)) := (pn_rI (t := 2) (by omega) (by omega)).trans (congrArg some r2)
      have hhis : min t1 (pn_sum (l' i) (t + 1)) * M 2 (20 * x + t) ≤ 198 * 20 * 99 := Nat.mul_le_mul (by omega) hp.1
      refine ⟨(t1 - min t1 (pn_sum (l' i) (t + 1)), ya_sI (ya_sI (ya_sI (ya_sI d2 (a + 8) i (nI (pn_sum (l' i) (t + 1) - min t1 (pn_sum (l' i) (t + 1))))) (a + 10) i (e1.1 96 i + nI (min t1 (pn_sum (l' i) (t + 1))))) (a + 9) i (nI (pn_sum (g' i) (M 0 1) + min t1 (pn_sum (l' i) (t + 1)) * M 2 (20 * x + t)))) (a + 5) (20 * i + t) (nI (min t1 (pn_sum (l' i) (t + 1)) * M 2 (20 * x + t)))), (t1 - min t1 (pn_sum (l' i) (t + 1)), e2), ⟨by show t1 - min t1 (pn_sum (l' i) (t + 1)) ≤ n; omega, rfl, (fun s => if s = i then pv_tk (l' i) t1 else l' s), (fun s => if s = i then pn_up (g' i) t (min t1 (pn_sum (l' i) (t + 1)) * M 2 (20 * x + t)) else g' s), ⟨fun s c hs hc => ?_, fun s c hs hc => ?_, fun s hs => ?_, fun s c => ?_, fun s c hs hc => ?_, fun s c hs hc => ?_⟩, ⟨fun s t' hs ht' => ?_, fun s hs => ?_, fun s t' => ?_, fun s t' hs ht' => ?_⟩, fun q hq => ?_, fun a' g1 g2 g3 g4 g5 => (rw_n g1).trans ((rw_n g4).trans ((rw_n g5).trans ((rw_n g3).trans ((A1 a' g2).trans (q4 a' g1 g2 g3 g4 g5))))), ?_, fun a' g1 g2 g3 => (B7 a' g1 g2 g3).trans (q6 a' g1 g2 g3), B8.trans q7⟩, ?_, ?_⟩
      · dsimp only
        by_cases q : s = i
        · subst q
          rw [if_pos rfl]
          exact (pn_o (by omega)).trans ((pn_o (by omega)).trans ((pn_o (by omega)).trans ((pn_o (by omega)).trans ((A3 c (Nat.le_of_lt_succ hc)).trans (congrArg nI (pv_tk_min hc))))))
        · rw [if_neg q]
          have hc' : c < t + 1 := hc
          exact (pn_o (by omega)).trans ((pn_o (by omega)).trans ((pn_o (by omega)).trans ((pn_o (by omega)).trans ((A4 _ (by omega)).trans (L1 s c hs hc)))))
      · dsimp only
        by_cases q : s = i
        · subst q
          rw [if_pos rfl]
          by_cases q2 : c ≤ t
          · exact B1 c q2
          · have e0 : l' s c = 0 := L5 s c hs (by show t + 1 ≤ c; omega)
            have e1 : pv_tk (l' s) t1 c = l' s c := by unfold pv_tk; omega
            rw [e1]
            exact (B2 _ (by omega)).trans (L2 s c hs hc)
        · rw [if_neg q]
          exact (B2 _ (by omega)).trans (L2 s c hs hc)
      · dsimp only
        by_cases q : s = i
        · subst q
          rw [if_pos rfl, pv_tk_sum, hz, show pn_sum (l' s) (t + 1) - t1 = pn_sum (l' s) (t + 1) - min t1 (pn_sum (l' s) (t + 1)) by omega]
          exact (pn_o (by omega)).trans ((pn_o (by omega)).trans ((pn_o (by omega)).trans (pn_e ⟨rfl, rfl⟩)))
        · rw [if_neg q]
          exact (pn_o (by omega)).trans ((pn_o (by omega)).trans ((pn_o (by omega)).trans ((pn_o (by omega)).trans ((congrFun (A1 _ (by omega)) _).trans (L3 s hs)))))
      · dsimp only
        by_cases q : s = i
        · rw [if_pos q]
          exact Nat.le_trans pv_tk_le (L4 i c)
        · rw [if_neg q]; exact L4 s c
      · dsimp only
        by_cases q : s = i
        · subst q
          rw [if_pos rfl]
          exact Nat.le_zero.mp (Nat.le_trans pv_tk_le (Nat.le_of_eq (L5 s c hs hc)))
        · rw [if_neg q]; exact L5 s c hs hc
      · dsimp only
        by_cases q : s = i
        · subst q
          rw [if_pos rfl]
          exact Nat.le_zero.mp (Nat.le_trans pv_tk_le (Nat.le_of_eq (L6 s c hs hc)))
        · rw [if_neg q]; exact L6 s c hs hc
      · dsimp only
        by_cases q : s = i
        · subst q
          rw [if_pos rfl]
          by_cases q2 : t' = t
          · subst q2
            rw [pn_upe]
            refine ⟨pn_e ⟨rfl, rfl⟩, B5.trans ?_⟩
            rw [(G1 s t' hs ht').2, hg0, nI_add, Nat.zero_add]
          · rw [pn_upn q2]
            exact ⟨(pn_o (by omega)).trans ((pn_o (by omega)).trans ((pn_o (by omega)).trans ((pn_o (by omega)).trans ((congrFun (A1 _ (by omega)) _).trans (G1 s t' hs ht').1)))), (B6 _ (by omega)).trans (G1 s t' hs ht').2⟩
        · rw [if_neg q]
          exact ⟨(pn_o (by omega)).trans ((pn_o (by omega)).trans ((pn_o (by omega)).trans ((pn_o (by omega)).trans ((congrFun (A1 _ (by omega)) _).trans (G1 s t' hs ht').1)))), (B6 _ (by omega)).trans (G1 s t' hs ht').2⟩
      · dsimp only
        by_cases q : s = i
        · subst q
          rw [if_pos rfl]
          have hu := pn_sum_up (f := g' s) (i := t) (v := min t1 (pn_sum (l' s) (t + 1)) * M 2 (20 * x + t)) (M 0 1) ht
          rw [hg0, Nat.add_zero] at hu
          rw [hu]
          exact (pn_o (by omega)).trans (pn_e ⟨rfl, rfl⟩)
        · rw [if_neg q]
          exact (pn_o (by omega)).trans ((pn_o (by omega)).trans ((pn_o (by omega)).trans ((pn_o (by omega)).trans ((congrFun (A1 _ (by omega)) _).trans (G2 s hs)))))
      · dsimp only
        by_cases q : s = i
        · rw [if_pos q]
          unfold pn_up
          split
          · omega
          · exact G3 i t'
        · rw [if_neg q]; exact G3 s t'
      · dsimp only at ht' ⊢
        by_cases q : s = i
        · subst q
          rw [if_pos ⟨hof.1, by omega⟩] at ht'
          rw [if_pos rfl, pn_upn (by omega)]
          refine G4 s t' hs ?_
          dsimp only
          rw [if_neg (show ¬ (M 5 s = x ∧ s < s) by omega)]
          have := hT s hof.1
          omega
        · rw [if_neg q]
          refine G4 s t' hs ?_
          dsimp only
          by_cases q2 : M 5 s = x ∧ s < i
          · rw [if_pos ⟨q2.1, by omega⟩] at ht'
            rw [if_pos q2]; exact ht'
          · rw [if_neg (by omega)] at ht'
            rw [if_neg q2]; exact ht'
      · by_cases q2 : q = i
        · subst q2
          exact (pn_o (by omega)).trans ((pn_o (by omega)).trans ((pn_e ⟨rfl, rfl⟩).trans B3.symm))
        · exact (pn_o (by omega)).trans ((pn_o (by omega)).trans ((pn_o (by omega)).trans ((pn_o (by omega)).trans ((congrFun (A1 _ (by omega)) _).trans ((q3 q hq).trans (B4 q q2).symm)))))
      · exact A2.trans q5
      · show f_X10_sell_L7 _ _ _ _ _ (fu + 1) _ _ _ = f_X10_sell_L7 _ _ _ _ _ fu _ _ _
        rw [f_X10_sell_L7, c4, if_neg (nI_ge hi (by omega))]
        simp (disch := omega) only [pl_0, pl_1, pl_2, pl_3, pl_4, pl_5, pl_6, pl_7, pl_8, pl_9, pl_10, pl_11, pl_12, pl_20, pl_24, pl_30, pl_31, pl_60, pl_99, pl_100, pl_111, pl_211, pl_311, pl_326, pl_400, pl_426, pb_s, ya_b2s, pj_0, pj_1, pj_2, pj_3, pb_pI, pb_pL, pm_cell1, pm_cell2, nI_add, pn_mul, pn_sub, pn_rI, pn_wI, pn_eq, pn_le, pn_lt, pm_min, pn_o, pn_e, pn_sI2, Nat.zero_add, Nat.add_zero, Nat.reduceAdd, c31, c33, if_pos hof.1, if_neg (Nat.not_lt.mpr hof.2), h8, A5, A1, q3 i hi, G2 i hi]
      · show f_X12_takes__L6 _ _ (fu + 1) _ _ _ = f_X12_takes__L6 _ _ fu _ _ _
        rw [f_X12_takes__L6, hd2, Option.bind_some, if_neg (nI_ge hi (by omega))]
        refine B9.trans ?_
        rw [nI_1]
    · have hd2 : ya_rI e1 84 468 2 = some (nI (M 0 4)) := (pn_rI (t := 2) (by omega) (by omega)).trans (congrArg some r2)
      refine ⟨(t1, d1), (t1, e1), ⟨h1, rfl, l', g', q1, ⟨q2.1, q2.2.1, q2.2.2.1, fun s t' hs ht' => q2.2.2.2 s t' hs ?_⟩, q3, q4, q5, q6, q7⟩, ?_, ?_⟩
      · dsimp only at ht' ⊢
        by_cases c1 : M 5 s = x
        · have := hT s c1
          by_cases c2 : s < i
          · rw [if_pos ⟨c1, by omega⟩] at ht'
            rw [if_pos ⟨c1, c2⟩]; exact ht'
          · rw [if_neg (by omega)]
            by_cases c3 : s < i + 1
            · rw [if_pos ⟨c1, c3⟩] at ht'; omega
            · rw [if_neg (by omega)] at ht'; exact ht'
        · rw [if_neg (fun q => c1 q.1)] at ht' ⊢; exact ht'
      · show f_X10_sell_L7 _ _ _ _ _ (fu + 1) _ _ _ = f_X10_sell_L7 _ _ _ _ _ fu _ _ _
        rw [f_X10_sell_L7, c4, if_neg (nI_ge hi (by omega))]
        by_cases c1 : M 5 i = x
        · simp (disch := omega) only [pl_0, pl_1, pl_2, pl_3, pl_4, pl_5, pl_6, pl_7, pl_8, pl_9, pl_10, pl_11, pl_12, pl_20, pl_24, pl_30, pl_31, pl_60, pl_99, pl_100, pl_111, pl_211, pl_311, pl_326, pl_400, pl_426, pb_s, ya_b2s, pj_0, pj_1, pj_2, pj_3, pb_pI, pb_pL, pm_cell1, pm_cell2, nI_add, pn_mul, pn_sub, pn_rI, pn_wI, pn_eq, pn_le, pn_lt, pm_min, pn_o, pn_e, pn_sI2, Nat.zero_add, Nat.add_zero, Nat.reduceAdd, c31, c33, if_pos c1, if_pos (show M 2 (20 * x + t) < M 7 i by omega)]
        · simp (disch := omega) only [pl_0, pl_1, pl_2, pl_3, pl_4, pl_5, pl_6, pl_7, pl_8, pl_9, pl_10, pl_11, pl_12, pl_20, pl_24, pl_30, pl_31, pl_60, pl_99, pl_100, pl_111, pl_211, pl_311, pl_326, pl_400, pl_426, pb_s, ya_b2s, pj_0, pj_1, pj_2, pj_3, pb_pI, pb_pL, pm_cell1, pm_cell2, nI_add, pn_mul, pn_sub, pn_rI, pn_wI, pn_eq, pn_le, pn_lt, pm_min, pn_o, pn_e, pn_sI2, Nat.zero_add, Nat.add_zero, Nat.reduceAdd, c31, c33, if_neg c1]
      · show f_X12_takes__L6 _ _ (fu + 1) _ _ _ = f_X12_takes__L6 _ _ fu _ _ _
        rw [f_X12_takes__L6, hd2, Option.bind_some, if_neg (nI_ge hi (by omega))]
        show f_X12_takes__L20 _ _ _ _ (9999 + 1) _ _ _ = _
        rw [f_X12_takes__L20, pl_0, if_neg (nI_nlt (by omega) (by omega)), ys_offers hq hi hx ht, if_neg hof, Option.bind_some, if_pos (show (0 : Int32) = nI 0 from rfl), nI_1]
end
