/-! Chance: the reference's order of those who come -/
def pc_m (c : Nat → Bool) (n : Nat) : Nat := pn_sum (fun b => if c b = true then 1 else 0) n
theorem pc_m_s (c : Nat → Bool) (n : Nat) : pc_m c (n + 1) = pc_m c n + if c n = true then 1 else 0 := rfl
theorem pc_m_le (c : Nat → Bool) : ∀ n, pc_m c n ≤ n
  | 0 => Nat.le_refl _
  | n + 1 => by
    have := pc_m_le c n
    rw [pc_m_s]
    by_cases h : c n = true
    · rw [if_pos h]; omega
    · rw [if_neg h]; omega
section
variable {d e : ya_D} {M M' : pm_M}
theorem pc_standIn (hJ : pm_J e M) {x t : Nat} (hx : x < M 0 3) (ht : t < M 0 1) {c : Nat → Bool} (hc : c = fun b => decide (pm_co M x t (M 2 (20 * x + t)) b)) : ∃ e', (∀ a, a ≠ 101 → e'.1 a = e.1 a) ∧ e'.2 = e.2 ∧ f_X12_standIn (nI x) (nI t) 0 e = some (nI (pc_m c (M 0 5)), e') ∧ ∀ n, n < M 0 5 → c n = true → e'.1 101 (pc_m c n) = nI n := by
  obtain ⟨⟨b0, b1, b2, b3, b4, b5⟩, -⟩ := pk_w hJ.2
  obtain ⟨K, hK⟩ : ∃ K : Int32 → ya_D → Option (Int32 × ya_D), K = fun (v4_49 : Int32) (d_49 : ya_D) => f_X12_standIn_L55 0 v4_49 ya_F (v4_49 - 1) d_49 := ⟨_, rfl⟩
  have key := pq_lp (G := fun fu i (s : ya_D) => f_X12_standIn_L6 (nI x) (nI t) 0 K fu (nI (pc_m c i)) (nI i) s) (E := fun s => K (nI (pc_m c (M 0 5))) s) (n := M 0 5)
    (I := fun i s => (∀ a, a ≠ 101 → s.1 a = e.1 a) ∧ s.2 = e.2 ∧ ∀ n, n < i → c n = true → s.1 101 (pc_m c n) = nI n)
    (Q := fun s => (∀ a, a ≠ 101 → s.1 a = e.1 a) ∧ s.2 = e.2 ∧ ∀ n, n < M 0 5 → c n = true → s.1 101 (pc_m c n) = nI n)
    (fun fu s hs => ⟨s, hs, by
      rw [f_X12_standIn_L6, show (3 : Int32) = nI 3 from rfl, pn_rI (by omega) (by omega), pb_s, hs.1 84 (by decide), (pk_r hJ.1).2.2.2.2.2.1, if_pos (by rw [pn_le (by omega) (by omega)]; omega)]⟩)
    (fun fu i s hi hs => by
      have hm := pc_m_le c i
      have hR : pm_R s 84 0 M := pm_R_c hJ.1 (fun k => by rw [hs.1 84 (by decide)])
      have h0 : f_X12_standIn_L6 (nI x) (nI t) 0 K (fu + 1) (nI (pc_m c i)) (nI i) s = if c i = true then f_X12_standIn_L6 (nI x) (nI t) 0 K fu (nI (pc_m c i + 1)) (nI (i + 1)) (ya_sI s 101 (pc_m c i) (nI i)) else f_X12_standIn_L6 (nI x) (nI t) 0 K fu (nI (pc_m c i)) (nI (i + 1)) s := by
        rw [f_X12_standIn_L6, show (3 : Int32) = nI 3 from rfl, pn_rI (by omega) (by omega), pb_s, hs.1 84 (by decide), (pk_r hJ.1).2.2.2.2.2.1, if_neg (by rw [pn_le (by omega) (by omega)]; omega), pk_wants hR hJ.2 hi hx ht, pb_s, pj_2, nI_1, pn_wI (by omega) (by omega), pb_s, nI_1]
        by_cases q : pm_co M x t (M 2 (20 * x + t)) i
        · rw [if_pos q, if_neg pn_10, if_pos (by rw [hc]; exact decide_eq_true q)]
        · rw [if_neg q, if_pos rfl, if_neg (by rw [hc]; dsimp only; rw [decide_eq_false q]; decide)]
      rw [h0]
      by_cases q : c i = true
      · refine Or.inr ⟨ya_sI s 101 (pc_m c i) (nI i), ⟨fun a ha => (rw_n ha).trans (hs.1 a ha), hs.2.1, fun n hn hcn => ?_⟩, ?_⟩
        · by_cases e1 : n = i
          · rw [e1]; exact pn_e ⟨rfl, rfl⟩
          · have h1 : pc_m c n + 1 ≤ pc_m c i := by
              have h2 : pc_m c (n + 1) ≤ pc_m c i := pn_sum_m _ (by omega)
              rw [pc_m_s, if_pos hcn] at h2
              exact h2
            rw [pn_o (by omega)]
            exact hs.2.2 n (by omega) hcn
        · rw [if_pos q, pc_m_s, if_pos q]
      · refine Or.inr ⟨s, ⟨hs.1, hs.2.1, fun n hn hcn => ?_⟩, ?_⟩
        · by_cases e1 : n = i
          · rw [e1] at hcn; exact absurd hcn q
          · exact hs.2.2 n (by omega) hcn
        · rw [if_neg q, pc_m_s, if_neg q]; rfl)
  obtain ⟨e', ⟨h1, h2, h3⟩, h4⟩ := key ya_F 0 e (by omega) (by unfold ya_F; omega) ⟨fun _ _ => rfl, rfl, fun n hn => absurd hn (Nat.not_lt_zero n)⟩
  refine ⟨e', h1, h2, ?_, h3⟩
  rw [f_X12_standIn, ← hK]
  refine h4.trans ?_
  rw [hK]
  dsimp only
  rw [show ya_F = 9999 + 1 from rfl, f_X12_standIn_L55]
  by_cases q : nI (pc_m c (M 0 5)) - 1 ≤ 0
  · rw [if_pos q]
  · rw [if_neg q, if_pos rfl]
end
