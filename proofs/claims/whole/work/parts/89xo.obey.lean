/-! Market: the class obeys a line; which line it is -/
theorem pr_n0 (d : ya_D) : ya_rI d 23 6 0 = some (d.1 23 0) := pn_rI (t := 0) (by omega) (by omega)
theorem pr_n1 (d : ya_D) : ya_rI d 23 6 1 = some (d.1 23 1) := pn_rI (t := 1) (by omega) (by omega)
theorem pr_n2 (d : ya_D) : ya_rI d 23 6 2 = some (d.1 23 2) := pn_rI (t := 2) (by omega) (by omega)
theorem pr_n3 (d : ya_D) : ya_rI d 23 6 3 = some (d.1 23 3) := pn_rI (t := 3) (by omega) (by omega)
theorem pr_n4 (d : ya_D) : ya_rI d 23 6 4 = some (d.1 23 4) := pn_rI (t := 4) (by omega) (by omega)
theorem pr_n5 (d : ya_D) : ya_rI d 23 6 5 = some (d.1 23 5) := pn_rI (t := 5) (by omega) (by omega)
section
variable {n : Nat} {b : Nat → Nat} {d d0 e0 e : ya_D} {X : pr_X} {l : List Nat}
theorem pr_o0 {y : Nat} (h0 : d.1 23 0 = nI y) : f_X3_obey (nI 0) d = some (ya_sI (ya_sI d 4 1 (nI y)) 4 2 99) := by
  rw [f_X3_obey, if_pos (show nI 0 = 0 from rfl), pr_n0, pb_s, h0, pb_pI, pb_s, pb_pI, pb_s]
theorem pr_o2 {t k v : Nat} (h0 : d.1 23 0 = nI t) (h1 : d.1 23 1 = nI k) (h2 : d.1 23 2 = nI v) (ht : t < 5) (hk : k < 20) : f_X3_obey (nI 2) d = some (ya_sI d 7 (20 * t + k) (nI v)) := by
  rw [f_X3_obey, if_neg (show ¬ nI 2 = 0 by decide), if_neg (show ¬ nI 2 = 1 by decide), if_pos (show nI 2 = 2 from rfl), pr_n0, pb_s, pr_n1, pb_s, h0, h1, pm_cell1, pb_s, pr_n2, pb_s, h2, pn_wI (by omega) (by omega), pb_s]
theorem pr_o3 {t k v : Nat} (h0 : d.1 23 0 = nI t) (h1 : d.1 23 1 = nI k) (h2 : d.1 23 2 = nI v) (ht : t < 5) (hk : k < 20) : f_X3_obey (nI 3) d = some (ya_sI d 8 (20 * t + k) (nI v)) := by
  rw [f_X3_obey, if_neg (show ¬ nI 3 = 0 by decide), if_neg (show ¬ nI 3 = 1 by decide), if_neg (show ¬ nI 3 = 2 by decide), if_pos (show nI 3 = 3 from rfl), pr_n0, pb_s, pr_n1, pb_s, h0, h1, pm_cell1, pb_s, pr_n2, pb_s, h2, pn_wI (by omega) (by omega), pb_s]
theorem pr_o5 {t k v : Nat} (h0 : d.1 23 0 = nI t) (h1 : d.1 23 1 = nI k) (h2 : d.1 23 2 = nI v) (ht : t < 5) (hk : k < 20) : f_X3_obey (nI 5) d = some (ya_sI d 14 (20 * t + k) (nI v)) := by
  rw [f_X3_obey, if_neg (show ¬ nI 5 = 0 by decide), if_neg (show ¬ nI 5 = 1 by decide), if_neg (show ¬ nI 5 = 2 by decide), if_neg (show ¬ nI 5 = 3 by decide), if_neg (show ¬ nI 5 = 4 by decide), if_pos (show nI 5 = 5 from rfl), pr_n0, pb_s, pr_n1, pb_s, h0, h1, pm_cell1, pb_s, pr_n2, pb_s, h2, pn_wI (by omega) (by omega), pb_s]
theorem pr_o7 {v : Nat} (h0 : d.1 23 0 = nI v) : f_X3_obey (nI 7) d = some (ya_sI d 4 2 (nI v)) := by
  rw [f_X3_obey, if_neg (show ¬ nI 7 = 0 by decide), if_neg (show ¬ nI 7 = 1 by decide), if_neg (show ¬ nI 7 = 2 by decide), if_neg (show ¬ nI 7 = 3 by decide), if_neg (show ¬ nI 7 = 4 by decide), if_neg (show ¬ nI 7 = 5 by decide), if_neg (show ¬ nI 7 = 6 by decide), pr_n0, pb_s, h0, pb_pI, pb_s]
theorem pr_o6 {t w p f o s nb : Nat} (h0 : d.1 23 0 = nI t) (h1 : d.1 23 1 = nI w) (h2 : d.1 23 2 = nI p) (h3 : d.1 23 3 = nI f) (h4 : d.1 23 4 = nI o) (h5 : d.1 23 5 = nI s) (hb : d.1 15 0 = nI nb) (hn : nb < 7) : f_X3_obey (nI 6) d = some (ya_sI (ya_sI (ya_sI (ya_sI (ya_sI (ya_sI (ya_sI d 16 nb (nI t)) 17 nb (nI w)) 18 nb (nI p)) 19 nb (nI f)) 20 nb (nI o)) 21 nb (nI s)) 15 0 (nI (nb + 1))) := by
  rw [f_X3_obey, if_neg (show ¬ nI 6 = 0 by decide), if_neg (show ¬ nI 6 = 1 by decide), if_neg (show ¬ nI 6 = 2 by decide), if_neg (show ¬ nI 6 = 3 by decide), if_neg (show ¬ nI 6 = 4 by decide), if_neg (show ¬ nI 6 = 5 by decide), if_pos (show nI 6 = 6 from rfl), f_X1_add]
  simp only [Nat.reduceAdd]
  rw [hb, if_neg (by rw [show (7 : Int32) = nI 7 from rfl, pn_le (by omega) (by omega)]; omega), if_pos (by decide), pr_n0, pb_s, h0, pn_wI hn (by omega), pb_s]
  rw [pr_n1, pb_s, pn_o (by omega), hb, pn_o (by omega), h1, pn_wI hn (by omega), pb_s]
  rw [pr_n2, pb_s, pn_o (by omega), pn_o (by omega), hb, pn_o (by omega), pn_o (by omega), h2, pn_wI hn (by omega), pb_s]
  rw [pr_n3, pb_s, pn_o (by omega), pn_o (by omega), pn_o (by omega), hb, pn_o (by omega), pn_o (by omega), pn_o (by omega), h3, pn_wI hn (by omega), pb_s]
  rw [pr_n4, pb_s, pn_o (by omega), pn_o (by omega), pn_o (by omega), pn_o (by omega), hb, pn_o (by omega), pn_o (by omega), pn_o (by omega), pn_o (by omega), h4, pn_wI hn (by omega), pb_s]
  rw [pr_n5, pb_s, pn_o (by omega), pn_o (by omega), pn_o (by omega), pn_o (by omega), pn_o (by omega), hb, pn_o (by omega), pn_o (by omega), pn_o (by omega), pn_o (by omega), pn_o (by omega), h5, pn_wI hn (by omega), pb_s]
  rw [pn_o (by omega), pn_o (by omega), pn_o (by omega), pn_o (by omega), pn_o (by omega), pn_o (by omega), hb, nI_1, pb_pI, pb_s, pb_s]
theorem pr_o1 {p k nt : Nat} (h0 : d.1 23 0 = nI p) (h1 : d.1 23 1 = nI k) (hm : d.1 5 0 = nI nt) (hn : nt < 5) : ∃ d', f_X3_obey (nI 1) d = some d' ∧ d'.2 = d.2 ∧ d'.1 5 0 = nI (nt + 1) ∧ d'.1 6 nt = nI k ∧ (∀ t, t < 20 → d'.1 7 (20 * nt + t) = nI p ∧ d'.1 8 (20 * nt + t) = nI p ∧ d'.1 9 (20 * nt + t) = -1) ∧ ∀ a z, ((a ≠ 5 ∨ z ≠ 0) ∧ (a ≠ 6 ∨ z ≠ nt) ∧ (a < 7 ∨ 9 < a ∨ z < 20 * nt ∨ 20 * nt + 20 ≤ z)) → d'.1 a z = d.1 a z := by
  obtain ⟨g, hg⟩ : ∃ g, g = ya_sI d 6 nt (nI k) := ⟨_, rfl⟩
  have key := pq_lp (G := fun fu i (s : ya_D) => f_X8_add_L21 5 (nI p) (fun (d_75 : ya_D) =>
      (ya_pI d_75 5 0 ((d_75.1 5 0) + 1)).bind fun d82 =>
      some d82) fu (nI i) s) (E := fun (d_75 : ya_D) =>
      (ya_pI d_75 5 0 ((d_75.1 5 0) + 1)).bind fun d82 =>
      some d82) (n := 20)
    (I := fun i s => s.2 = g.2 ∧ (∀ t, t < i → s.1 7 (20 * nt + t) = nI p ∧ s.1 8 (20 * nt + t) = nI p ∧ s.1 9 (20 * nt + t) = -1) ∧ ∀ a z, (a < 7 ∨ 9 < a ∨ z < 20 * nt ∨ 20 * nt + 20 ≤ z) → s.1 a z = g.1 a z)
    (Q := fun s => s.2 = g.2 ∧ (∀ t, t < 20 → s.1 7 (20 * nt + t) = nI p ∧ s.1 8 (20 * nt + t) = nI p ∧ s.1 9 (20 * nt + t) = -1) ∧ ∀ a z, (a < 7 ∨ 9 < a ∨ z < 20 * nt ∨ 20 * nt + 20 ≤ z) → s.1 a z = g.1 a z)
    (fun fu s hs => ⟨s, hs, by
      rw [f_X8_add_L21, if_pos (by decide)]⟩)
    (fun fu i s hi hs => Or.inr ⟨ya_sI (ya_sI (ya_sI s 7 (20 * nt + i) (nI p)) 8 (20 * nt + i) (nI p)) 9 (20 * nt + i) (-1), ⟨hs.1, fun t ht => by
        by_cases c : t = i
        · subst c
          exact ⟨by rw [pn_o (by omega), pn_o (by omega)]; exact pn_e ⟨rfl, rfl⟩, by rw [pn_o (by omega)]; exact pn_e ⟨rfl, rfl⟩, pn_e ⟨rfl, rfl⟩⟩
        · obtain ⟨a1, a2, a3⟩ := hs.2.1 t (by omega)
          exact ⟨by rw [pn_o (by omega), pn_o (by omega), pn_o (by omega)]; exact a1, by rw [pn_o (by omega), pn_o (by omega), pn_o (by omega)]; exact a2, by rw [pn_o (by omega), pn_o (by omega), pn_o (by omega)]; exact a3⟩, fun a z q => by
        rw [pn_o (by omega), pn_o (by omega), pn_o (by omega)]; exact hs.2.2 a z q⟩, by
      have s5 : s.1 5 0 = nI nt := by rw [hs.2.2 _ _ (by omega), hg, pn_o (by omega), hm]
      rw [f_X8_add_L21, if_neg (by rw [show (20 : Int32) = nI 20 from rfl, pn_le (by omega) (by omega)]; omega)]
      simp only [Nat.reduceAdd]
      rw [s5, pm_cell1, pb_s, pn_wI (by omega) (by omega), pb_s, pn_o (by omega), s5, pm_cell1, pb_s, pn_wI (by omega) (by omega), pb_s, pn_o (by omega), pn_o (by omega), s5, pm_cell1, pb_s, pn_wI (by omega) (by omega), pb_s, nI_1]⟩)
  obtain ⟨s, ⟨k1, k2, k3⟩, k4⟩ := key ya_F 0 g (by omega) (by rw [ya_F]; omega) ⟨rfl, fun t ht => absurd ht (Nat.not_lt_zero t), fun _ _ _ => rfl⟩
  have s5 : s.1 5 0 = nI nt := by rw [k3 _ _ (by omega), hg, pn_o (by omega), hm]
  refine ⟨ya_sI s 5 0 (nI (nt + 1)), ?_, by rw [pn_sI2, k1, hg, pn_sI2], pn_e ⟨rfl, rfl⟩, ?_, fun t ht => ?_, fun a z q => ?_⟩
  · rw [f_X3_obey, if_neg (show ¬ nI 1 = 0 by decide), if_pos (show nI 1 = 1 from rfl), pr_n0, pb_s, pr_n1, pb_s, h0, h1, f_X8_add]
    simp only [Nat.reduceAdd]
    rw [hm, if_pos (by rw [show (5 : Int32) = nI 5 from rfl, pn_lt (by omega) (by omega)]; omega), pn_wI (by omega) (by omega), pb_s, ← hg]
    rw [show f_X8_add_L21 5 (nI p) (fun (d_75 : ya_D) => (ya_pI d_75 5 0 ((d_75.1 5 0) + 1)).bind fun d82 => some d82) ya_F 0 g = _ from k4, s5, nI_1, pb_pI, pb_s, pb_s]
  · rw [pn_o (by omega), k3 _ _ (by omega), hg]; exact pn_e ⟨rfl, rfl⟩
  · obtain ⟨a1, a2, a3⟩ := k2 t ht
    exact ⟨by rw [pn_o (by omega)]; exact a1, by rw [pn_o (by omega)]; exact a2, by rw [pn_o (by omega)]; exact a3⟩
  · rw [pn_o (by omega), k3 a z (by omega), hg, pn_o (by omega)]
theorem pr_o4 {t u v ns : Nat} (h0 : d.1 23 0 = nI t) (h1 : d.1 23 1 = nI u) (h2 : d.1 23 2 = nI v) (hm : d.1 10 0 = nI ns) (hn : ns < 5) : ∃ d', f_X3_obey (nI 4) d = some d' ∧ d'.2 = d.2 ∧ d'.1 10 0 = nI (ns + 1) ∧ d'.1 11 ns = nI t ∧ d'.1 12 ns = nI u ∧ d'.1 13 ns = nI v ∧ (∀ t, t < 20 → d'.1 14 (20 * ns + t) = 0) ∧ ∀ a z, ((a ≠ 10 ∨ z ≠ 0) ∧ (a < 11 ∨ 13 < a ∨ z ≠ ns) ∧ (a ≠ 14 ∨ z < 20 * ns ∨ 20 * ns + 20 ≤ z)) → d'.1 a z = d.1 a z := by
  obtain ⟨g, hg⟩ : ∃ g, g = ya_sI (ya_sI (ya_sI d 11 ns (nI t)) 12 ns (nI u)) 13 ns (nI v) := ⟨_, rfl⟩
  have key := pq_lp (G := fun fu i (s : ya_D) => f_X6_add_L42 10 (fun (d_70 : ya_D) =>
      (ya_pI d_70 10 0 ((d_70.1 10 0) + 1)).bind fun d77 =>
      some d77) fu (nI i) s) (E := fun (d_70 : ya_D) =>
      (ya_pI d_70 10 0 ((d_70.1 10 0) + 1)).bind fun d77 =>
      some d77) (n := 20)
    (I := fun i s => s.2 = g.2 ∧ (∀ t, t < i → s.1 14 (20 * ns + t) = 0) ∧ ∀ a z, (a ≠ 14 ∨ z < 20 * ns ∨ 20 * ns + 20 ≤ z) → s.1 a z = g.1 a z)
    (Q := fun s => s.2 = g.2 ∧ (∀ t, t < 20 → s.1 14 (20 * ns + t) = 0) ∧ ∀ a z, (a ≠ 14 ∨ z < 20 * ns ∨ 20 * ns + 20 ≤ z) → s.1 a z = g.1 a z)
    (fun fu s hs => ⟨s, hs, by
      rw [f_X6_add_L42, if_pos (by decide)]⟩)
    (fun fu i s hi hs => Or.inr ⟨ya_sI s 14 (20 * ns + i) 0, ⟨hs.1, fun t ht => by
        by_cases c : t = i
        · subst c
          exact pn_e ⟨rfl, rfl⟩
        · rw [pn_o (by omega)]; exact hs.2.1 t (by omega), fun a z q => by
        rw [pn_o (by omega)]; exact hs.2.2 a z q⟩, by
      have s5 : s.1 10 0 = nI ns := by rw [hs.2.2 _ _ (by omega), hg, pn_o (by omega), pn_o (by omega), pn_o (by omega), hm]
      rw [f_X6_add_L42, if_neg (by rw [show (20 : Int32) = nI 20 from rfl, pn_le (by omega) (by omega)]; omega)]
      simp only [Nat.reduceAdd]
      rw [s5, pm_cell1, pb_s, pn_wI (by omega) (by omega), pb_s, nI_1]⟩)
  obtain ⟨s, ⟨k1, k2, k3⟩, k4⟩ := key ya_F 0 g (by omega) (by rw [ya_F]; omega) ⟨rfl, fun t ht => absurd ht (Nat.not_lt_zero t), fun _ _ _ => rfl⟩
  have s5 : s.1 10 0 = nI ns := by rw [k3 _ _ (by omega), hg, pn_o (by omega), pn_o (by omega), pn_o (by omega), hm]
  refine ⟨ya_sI s 10 0 (nI (ns + 1)), ?_, by rw [pn_sI2, k1, hg]; rfl, pn_e ⟨rfl, rfl⟩, ?_, ?_, ?_, fun t ht => ?_, fun a z q => ?_⟩
  · rw [f_X3_obey, if_neg (show ¬ nI 4 = 0 by decide), if_neg (show ¬ nI 4 = 1 by decide), if_neg (show ¬ nI 4 = 2 by decide), if_neg (show ¬ nI 4 = 3 by decide), if_pos (show nI 4 = 4 from rfl), pr_n0, pb_s, pr_n1, pb_s, pr_n2, pb_s, h0, h1, h2, f_X6_add]
    simp only [Nat.reduceAdd]
    rw [hm, if_pos (by rw [show (5 : Int32) = nI 5 from rfl, pn_lt (by omega) (by omega)]; omega), pn_wI (by omega) (by omega), pb_s, pn_o (by omega), hm, pn_wI (by omega) (by omega), pb_s, pn_o (by omega), pn_o (by omega), hm, pn_wI (by omega) (by omega), pb_s, ← hg]
    rw [show f_X6_add_L42 10 (fun (d_70 : ya_D) => (ya_pI d_70 10 0 ((d_70.1 10 0) + 1)).bind fun d77 => some d77) ya_F 0 g = _ from k4, s5, nI_1, pb_pI, pb_s, pb_s]
  · rw [pn_o (by omega), k3 _ _ (by omega), hg, pn_o (by omega), pn_o (by omega)]; exact pn_e ⟨rfl, rfl⟩
  · rw [pn_o (by omega), k3 _ _ (by omega), hg, pn_o (by omega)]; exact pn_e ⟨rfl, rfl⟩
  · rw [pn_o (by omega), k3 _ _ (by omega), hg]; exact pn_e ⟨rfl, rfl⟩
  · rw [pn_o (by omega)]; exact k2 t ht
  · rw [pn_o (by omega), k3 a z (by omega), hg, pn_o (by omega), pn_o (by omega), pn_o (by omega)]
/-! which line -/
def pr_hw : Nat → List Nat
  | 0 => ps_market
  | 1 => ps_thing
  | 2 => ps_was
  | 3 => ps_old
  | 4 => ps_seller
  | 5 => ps_grows
  | 6 => ps_buyer
  | _ => ps_cap
theorem pr_hw1 : ∀ k, k < 8 → pr_sl k 0 (pr_hw k) := by decide +kernel
theorem pr_hw2 : ∀ k, k < 8 → ya_sx k 32 = some (nI (pr_hw k).length) := by decide +kernel
theorem pr_hw3 : ∀ k, k < 8 → ∀ j, j < 8 → pr_hw k = pr_hw j → k = j := by decide +kernel
theorem pr_hw4 : ∀ k, k < 8 → f_X3_formOf (nI k) = some k := by decide +kernel
theorem pr_hw5 : ∀ k, k < 8 → 1 ≤ k → pr_lw (9 + k) (pr_hw k) := by decide +kernel
theorem pr_kh1 (ht : pr_tp d n b) {i : Nat} (hK : pr_cK n b d i) (hi : i ≤ n) {k : Nat} (hk : k ≤ 8) : ∀ m j fu, j + m = k → (∀ q, j ≤ q → q < k → ¬ pr_is b (pr_S n b i) (pr_E n b i) (pr_hw q)) → f_X3_kindHere_L2 d (fu + m) (nI j) = f_X3_kindHere_L2 d fu (nI k)
  | 0, j, fu, hj, _ => by rw [show j = k by omega]; rfl
  | m + 1, j, fu, hj, h => by
    have hE := pr_E_b (b := b) hi
    have his : f_X9_isAs j 0 (nI (pr_hw j).length) d = some (if pr_is b (pr_S n b i) (pr_E n b i) (pr_hw j) then 1 else 0) := pr_isAs (x := 0) ht (pr_hw1 j (by omega)) hK.2.1 hK.2.2.1 hE.2.2.1 hE.2.2.2.1 (by rw [Nat.zero_add])
    rw [← Nat.add_assoc, f_X3_kindHere_L2, if_neg (by rw [show (8 : Int32) = nI 8 from rfl, pn_le (by omega) (by omega)]; omega), pr_hw4 j (by omega), pb_s, pr_hw2 j (by omega), pb_s, his, pb_s, if_neg (h j (Nat.le_refl _) (by omega)), if_pos rfl, nI_1]
    exact pr_kh1 ht hK hi hk m (j + 1) fu (by omega) (fun q q1 q2 => h q (by omega) q2)
theorem pr_khK (ht : pr_tp d n b) {i : Nat} (hK : pr_cK n b d i) (hi : i ≤ n) {k : Nat} (hk : k < 8) (h : pr_is b (pr_S n b i) (pr_E n b i) (pr_hw k)) : f_X3_kindHere d = some (nI k) := by
  have hE := pr_E_b (b := b) hi
  have his : f_X9_isAs k 0 (nI (pr_hw k).length) d = some (if pr_is b (pr_S n b i) (pr_E n b i) (pr_hw k) then 1 else 0) := pr_isAs (x := 0) ht (pr_hw1 k hk) hK.2.1 hK.2.2.1 hE.2.2.1 hE.2.2.2.1 (by rw [Nat.zero_add])
  have h1 := pr_kh1 ht hK hi (k := k) (by omega) k 0 (ya_F - k) (by omega) (fun q _ q2 z => by
    have := pr_hw3 k hk q (by omega) (pr_ne h z)
    omega)
  rw [show ya_F - k + k = ya_F by rw [ya_F]; omega] at h1
  refine h1.trans ?_
  obtain ⟨f, hf⟩ : ∃ f, ya_F - k = f + 1 := ⟨ya_F - k - 1, by rw [ya_F]; omega⟩
  rw [hf, f_X3_kindHere_L2, if_neg (by rw [show (8 : Int32) = nI 8 from rfl, pn_le (by omega) (by omega)]; omega), pr_hw4 k hk, pb_s, pr_hw2 k hk, pb_s, his, pb_s, if_pos h, if_neg pn_10]
theorem pr_khN (ht : pr_tp d n b) {i : Nat} (hK : pr_cK n b d i) (hi : i ≤ n) (h : ∀ k, k < 8 → ¬ pr_is b (pr_S n b i) (pr_E n b i) (pr_hw k)) : f_X3_kindHere d = some (-1) := by
  have h1 := pr_kh1 ht hK hi (k := 8) (by omega) 8 0 9992 (by omega) (fun q _ q2 => h q q2)
  refine h1.trans ?_
  rw [show (9992 : Nat) = 9991 + 1 from rfl, f_X3_kindHere_L2, if_pos (by decide)]
/-! the class's line -/
def pr_go (k : Nat) : ya_D → Option ya_D := fun d66 =>
  if (d66.1 3 4) = 0 then
    (ya_pI d66 4 0 ((d66.1 4 0) + 1)).bind fun d86 =>
    (f_X3_obey (nI k) d86).bind fun d91 =>
    some d91
  else
  some d66
theorem pr_clA {x : Int32} (hk : f_X3_kindHere d = some x) (h : x = -1 ∨ ¬ (d.1 4 0 = 0 ↔ x = 0)) : f_X3_readLine d = (f_X3_refuse 1 d).bind fun d42 => some d42 := by
  rw [f_X3_readLine, hk, pb_s, pj_1]
  by_cases c : d.1 4 0 = 0
  · rw [if_pos c]
    dsimp only
    rw [pj_0]
    by_cases c1 : x = -1
    · rw [if_pos c1]
    · rw [if_neg c1, pj_1]
      by_cases c2 : x = 0
      · exact absurd (h.resolve_left c1) (fun z => z ⟨fun _ => c2, fun _ => c⟩)
      · rw [if_neg c2]
        dsimp only
        rw [if_neg pn_10]
  · rw [if_neg c]
    dsimp only
    rw [pj_0]
    by_cases c1 : x = -1
    · rw [if_pos c1]
    · rw [if_neg c1, pj_1]
      by_cases c2 : x = 0
      · rw [if_pos c2]
        dsimp only
        rw [if_neg (show ¬ (0 : Int32) = 1 by decide)]
      · exact absurd (h.resolve_left c1) (fun z => z ⟨fun q => absurd q c, fun q => absurd q c2⟩)
theorem pr_clB {k : Nat} (hk : f_X3_kindHere d = some (nI k)) (hk8 : k < 8) (h : d.1 4 0 = 0 ↔ k = 0) : f_X3_readLine d = (f_X3_isFull (nI k) d).bind fun x48 => if x48 = 0 then (f_X3_readForm k d).bind (pr_go k) else (f_X3_refuse 3 d).bind fun d56 => some d56 := by
  have z0 : nI k = 0 ↔ k = 0 := nI_eq (b := 0) (by omega) (by omega)
  rw [f_X3_readLine, hk, pb_s, pj_1, pr_hw4 k hk8]
  by_cases c : d.1 4 0 = 0
  · rw [if_pos c]
    dsimp only
    rw [pj_0, if_neg (pn_m1 (by omega)), pj_1, if_pos (z0.2 (h.1 c))]
    dsimp only
    rw [if_pos rfl, pb_s]
    rfl
  · rw [if_neg c]
    dsimp only
    rw [pj_0, if_neg (pn_m1 (by omega)), pj_1, if_neg (fun q => c (h.2 (z0.1 q)))]
    dsimp only
    rw [if_pos rfl, pb_s]
    rfl
end
