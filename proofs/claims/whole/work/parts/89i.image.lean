/-! Images: image, restore -/
/-- how much of the j-th cell of a market is kept -/
def pt_sz (j : Nat) : Nat := if j = 0 then 3 else if j = 1 ∨ j = 6 ∨ j = 11 then 1 else if 12 ≤ j then 7 else if j = 2 ∨ j = 7 ∨ j = 8 ∨ j = 9 then 5 else 100
/-- the first j cells of the market at a stand at b too -/
def pt_Cp (d d' : ya_D) (a b j : Nat) : Prop := d'.2 = d.2 ∧ (∀ c z, (c < b ∨ b + j ≤ c) → d'.1 c z = d.1 c z) ∧ ∀ i z, i < j → z < pt_sz i → d'.1 (b + i) z = d.1 (a + i) z
section
variable {d d' : ya_D} {M : pm_M} {G G' : ya_G} {a b j : Nat}
theorem pt_cpk (hab : a + 18 ≤ b ∨ b + 18 ≤ a) (h : pt_Cp d d' a b j) (hj : j < 18) {n : Nat} (hn : pt_sz j = n) : pt_Cp d (ya_cI d' (a + j) 0 (b + j) 0 n) a b (j + 1) := by
  obtain ⟨h1, h2, h3⟩ := h
  refine ⟨h1, fun c z hc => ?_, fun i z hi hz => ?_⟩
  · show (if c = b + j ∧ 0 ≤ z ∧ z < 0 + n then d'.1 (a + j) (0 + (z - 0)) else d'.1 c z) = _
    rw [if_neg (by omega), h2 c z (by omega)]
  · show (if b + i = b + j ∧ 0 ≤ z ∧ z < 0 + n then d'.1 (a + j) (0 + (z - 0)) else d'.1 (b + i) z) = _
    by_cases c : i = j
    · subst c
      rw [if_pos (by omega), h2 _ _ (by omega), Nat.zero_add, Nat.sub_zero]
    · rw [if_neg (by omega), h3 i z (by omega) hz]
theorem pt_cps (hab : a + 18 ≤ b ∨ b + 18 ≤ a) (h : pt_Cp d d' a b j) (hj : j < 18) (hn : pt_sz j = 1) : pt_Cp d (ya_sI d' (b + j) 0 (d'.1 (a + j) 0)) a b (j + 1) := by
  obtain ⟨h1, h2, h3⟩ := h
  refine ⟨h1, fun c z hc => ?_, fun i z hi hz => ?_⟩
  · rw [pn_o (by omega), h2 c z (by omega)]
  · by_cases c : i = j
    · subst c
      obtain rfl : z = 0 := by omega
      rw [pn_e ⟨rfl, rfl⟩, h2 _ _ (by omega)]
    · rw [pn_o (by omega), h3 i z (by omega) hz]
theorem pt_k5 (d : ya_D) (a b : Nat) : ya_kI d a 5 0 b 5 0 5 = some (ya_cI d a 0 b 0 5) := rfl
theorem pt_k7 (d : ya_D) (a b : Nat) : ya_kI d a 7 0 b 7 0 7 = some (ya_cI d a 0 b 0 7) := rfl
theorem pt_k100 (d : ya_D) (a b : Nat) : ya_kI d a 100 0 b 100 0 100 = some (ya_cI d a 0 b 0 100) := rfl
theorem pt_take (hab : a + 18 ≤ b ∨ b + 18 ≤ a) (d : ya_D) : ∃ d', f_X2_take b a d = some d' ∧ pt_Cp d d' a b 18 := by
  obtain ⟨d1, e1⟩ : ∃ x, x = ya_sI (ya_sI (ya_sI d b 0 (d.1 a 0)) b 1 (d.1 a 1)) b 2 (d.1 a 2) := ⟨_, rfl⟩
  have c1 : pt_Cp d d1 a b 1 := by
    refine ⟨by rw [e1]; rfl, fun c z hc => ?_, fun i z hi hz => ?_⟩
    · rw [e1, pn_o (by omega), pn_o (by omega), pn_o (by omega)]
    · obtain rfl : i = 0 := by omega
      have hz' : z < 3 := hz
      obtain rfl | rfl | rfl : z = 0 ∨ z = 1 ∨ z = 2 := by omega
      · rw [e1, pn_o (by omega), pn_o (by omega)]; exact pn_e ⟨rfl, rfl⟩
      · rw [e1, pn_o (by omega)]; exact pn_e ⟨rfl, rfl⟩
      · rw [e1]; exact pn_e ⟨rfl, rfl⟩
  obtain ⟨d2, e2⟩ : ∃ x, x = ya_sI d1 (b + 1) 0 (d1.1 (a + 1) 0) := ⟨_, rfl⟩
  have c2 : pt_Cp d d2 a b 2 := by rw [e2]; exact pt_cps hab c1 (by omega) rfl
  obtain ⟨d3, e3⟩ : ∃ x, x = ya_cI d2 (a + 1 + 1) 0 (b + 1 + 1) 0 5 := ⟨_, rfl⟩
  have c3 : pt_Cp d d3 a b 3 := by rw [e3]; exact pt_cpk hab c2 (by omega) rfl
  obtain ⟨d4, e4⟩ : ∃ x, x = ya_cI d3 (a + 1 + 2) 0 (b + 1 + 2) 0 100 := ⟨_, rfl⟩
  have c4 : pt_Cp d d4 a b 4 := by rw [e4, Nat.add_assoc a, Nat.add_assoc b]; exact pt_cpk hab c3 (by omega) rfl
  obtain ⟨d5, e5⟩ : ∃ x, x = ya_cI d4 (a + 1 + 3) 0 (b + 1 + 3) 0 100 := ⟨_, rfl⟩
  have c5 : pt_Cp d d5 a b 5 := by rw [e5, Nat.add_assoc a, Nat.add_assoc b]; exact pt_cpk hab c4 (by omega) rfl
  obtain ⟨d6, e6⟩ : ∃ x, x = ya_cI d5 (a + 1 + 4) 0 (b + 1 + 4) 0 100 := ⟨_, rfl⟩
  have c6 : pt_Cp d d6 a b 6 := by rw [e6, Nat.add_assoc a, Nat.add_assoc b]; exact pt_cpk hab c5 (by omega) rfl
  obtain ⟨d7, e7⟩ : ∃ x, x = ya_sI d6 (b + 6) 0 (d6.1 (a + 6) 0) := ⟨_, rfl⟩
  have c7 : pt_Cp d d7 a b 7 := by rw [e7]; exact pt_cps hab c6 (by omega) rfl
  obtain ⟨d8, e8⟩ : ∃ x, x = ya_cI d7 (a + 6 + 1) 0 (b + 6 + 1) 0 5 := ⟨_, rfl⟩
  have c8 : pt_Cp d d8 a b 8 := by rw [e8, Nat.add_assoc a, Nat.add_assoc b]; exact pt_cpk hab c7 (by omega) rfl
  obtain ⟨d9, e9⟩ : ∃ x, x = ya_cI d8 (a + 6 + 2) 0 (b + 6 + 2) 0 5 := ⟨_, rfl⟩
  have c9 : pt_Cp d d9 a b 9 := by rw [e9, Nat.add_assoc a, Nat.add_assoc b]; exact pt_cpk hab c8 (by omega) rfl
  obtain ⟨d10, e10⟩ : ∃ x, x = ya_cI d9 (a + 6 + 3) 0 (b + 6 + 3) 0 5 := ⟨_, rfl⟩
  have c10 : pt_Cp d d10 a b 10 := by rw [e10, Nat.add_assoc a, Nat.add_assoc b]; exact pt_cpk hab c9 (by omega) rfl
  obtain ⟨d11, e11⟩ : ∃ x, x = ya_cI d10 (a + 6 + 4) 0 (b + 6 + 4) 0 100 := ⟨_, rfl⟩
  have c11 : pt_Cp d d11 a b 11 := by rw [e11, Nat.add_assoc a, Nat.add_assoc b]; exact pt_cpk hab c10 (by omega) rfl
  obtain ⟨d12, e12⟩ : ∃ x, x = ya_sI d11 (b + 11) 0 (d11.1 (a + 11) 0) := ⟨_, rfl⟩
  have c12 : pt_Cp d d12 a b 12 := by rw [e12]; exact pt_cps hab c11 (by omega) rfl
  obtain ⟨d13, e13⟩ : ∃ x, x = ya_cI d12 (a + 11 + 1) 0 (b + 11 + 1) 0 7 := ⟨_, rfl⟩
  have c13 : pt_Cp d d13 a b 13 := by rw [e13, Nat.add_assoc a, Nat.add_assoc b]; exact pt_cpk hab c12 (by omega) rfl
  obtain ⟨d14, e14⟩ : ∃ x, x = ya_cI d13 (a + 11 + 2) 0 (b + 11 + 2) 0 7 := ⟨_, rfl⟩
  have c14 : pt_Cp d d14 a b 14 := by rw [e14, Nat.add_assoc a, Nat.add_assoc b]; exact pt_cpk hab c13 (by omega) rfl
  obtain ⟨d15, e15⟩ : ∃ x, x = ya_cI d14 (a + 11 + 3) 0 (b + 11 + 3) 0 7 := ⟨_, rfl⟩
  have c15 : pt_Cp d d15 a b 15 := by rw [e15, Nat.add_assoc a, Nat.add_assoc b]; exact pt_cpk hab c14 (by omega) rfl
  obtain ⟨d16, e16⟩ : ∃ x, x = ya_cI d15 (a + 11 + 4) 0 (b + 11 + 4) 0 7 := ⟨_, rfl⟩
  have c16 : pt_Cp d d16 a b 16 := by rw [e16, Nat.add_assoc a, Nat.add_assoc b]; exact pt_cpk hab c15 (by omega) rfl
  obtain ⟨d17, e17⟩ : ∃ x, x = ya_cI d16 (a + 11 + 5) 0 (b + 11 + 5) 0 7 := ⟨_, rfl⟩
  have c17 : pt_Cp d d17 a b 17 := by rw [e17, Nat.add_assoc a, Nat.add_assoc b]; exact pt_cpk hab c16 (by omega) rfl
  obtain ⟨d18, e18⟩ : ∃ x, x = ya_cI d17 (a + 11 + 6) 0 (b + 11 + 6) 0 7 := ⟨_, rfl⟩
  have c18 : pt_Cp d d18 a b 18 := by rw [e18, Nat.add_assoc a, Nat.add_assoc b]; exact pt_cpk hab c17 (by omega) rfl
  have x1 : (ya_sI d b 0 (d.1 a 0)).1 a 1 = d.1 a 1 := pn_o (by omega)
  have x2 : (ya_sI (ya_sI d b 0 (d.1 a 0)) b 1 (d.1 a 1)).1 a 2 = d.1 a 2 := by rw [pn_o (by omega), pn_o (by omega)]
  have T8 : f_X8_take (b + 1) (a + 1) d1 = some d6 := by
    rw [f_X8_take, pb_pI, pb_s, ← e2, pt_k5, pb_s, ← e3, pt_k100, pb_s, ← e4, pt_k100, pb_s, ← e5, pt_k100, pb_s, ← e6]
  have T6 : f_X6_take (b + 6) (a + 6) d6 = some d11 := by
    rw [f_X6_take, pb_pI, pb_s, ← e7, pt_k5, pb_s, ← e8, pt_k5, pb_s, ← e9, pt_k5, pb_s, ← e10, pt_k100, pb_s, ← e11]
  have T1 : f_X1_take (b + 11) (a + 11) d11 = some d18 := by
    rw [f_X1_take, pb_pI, pb_s, ← e12, pt_k7, pb_s, ← e13, pt_k7, pb_s, ← e14, pt_k7, pb_s, ← e15, pt_k7, pb_s, ← e16, pt_k7, pb_s, ← e17, pt_k7, pb_s, ← e18]
  refine ⟨d18, ?_, c18⟩
  rw [f_X2_take, pb_pI, pb_s, pb_pI, pb_s, pb_pI, pb_s, x1, x2, ← e1, T8, pb_s, T6, pb_s, T1, pb_s]
theorem pt_C_cp (hW : pm_W M) (h : pt_Cp d d' a b 18) (hC : pm_C d a M) : pm_C d' b M := by
  obtain ⟨w0, w1, w2, w3, w4, w5⟩ := pk_w hW
  obtain ⟨-, -, h3⟩ := h
  have g : ∀ i z, i < 18 → z < pt_sz i → d'.1 (b + i) z = d.1 (a + i) z := h3
  obtain ⟨k0, k1, k2, k3, k4, k5, k6, k7, k8, k9, k10⟩ := hC
  refine ⟨?_, ?_, ?_, ?_, ?_, ?_, fun x hx => ?_, fun x t hx ht => ?_, fun s hs => ?_, fun s e hs he => ?_, fun u hu => ?_⟩
  · exact (g 0 0 (by omega) (by decide)).trans k0
  · exact (g 0 1 (by omega) (by decide)).trans k1
  · exact (g 0 2 (by omega) (by decide)).trans k2
  · exact (g 1 0 (by omega) (by decide)).trans k3
  · exact (g 6 0 (by omega) (by decide)).trans k4
  · exact (g 11 0 (by omega) (by decide)).trans k5
  · exact (g 2 x (by omega) (show x < 5 by omega)).trans (k6 x hx)
  · obtain ⟨p1, p2, p3⟩ := k7 x t hx ht
    exact ⟨(g 3 _ (by omega) (show _ < 100 by omega)).trans p1, (g 4 _ (by omega) (show _ < 100 by omega)).trans p2, (g 5 _ (by omega) (show _ < 100 by omega)).trans p3⟩
  · obtain ⟨p1, p2, p3⟩ := k8 s hs
    exact ⟨(g 7 _ (by omega) (show _ < 5 by omega)).trans p1, (g 8 _ (by omega) (show _ < 5 by omega)).trans p2, (g 9 _ (by omega) (show _ < 5 by omega)).trans p3⟩
  · exact (g 10 _ (by omega) (show _ < 100 by omega)).trans (k9 s e hs he)
  · obtain ⟨p1, p2, p3, p4, p5, p6⟩ := k10 u hu
    exact ⟨(g 12 _ (by omega) (show _ < 7 by omega)).trans p1, (g 13 _ (by omega) (show _ < 7 by omega)).trans p2, (g 14 _ (by omega) (show _ < 7 by omega)).trans p3, (g 15 _ (by omega) (show _ < 7 by omega)).trans p4, (g 16 _ (by omega) (show _ < 7 by omega)).trans p5, (g 17 _ (by omega) (show _ < 7 by omega)).trans p6⟩
theorem pt_R_cp (hW : pm_W M) {w o w' o' : Nat} (g : ∀ i, i < 468 → d'.1 w' (o' + i) = d.1 w (o + i)) (hR : pm_R d w o M) : pm_R d' w' o' M := by
  obtain ⟨w0, w1, w2, w3, w4, w5⟩ := pk_w hW
  obtain ⟨k0, k1, k2, k3, k4, k5, k6, k7, k8, k9, k10⟩ := hR
  refine ⟨?_, ?_, ?_, ?_, ?_, ?_, fun x hx => ?_, fun x t hx ht => ?_, fun s hs => ?_, fun s e hs he => ?_, fun u hu => ?_⟩
  · exact (g 4 (by omega)).trans k0
  · exact (g 0 (by omega)).trans k1
  · exact (g 5 (by omega)).trans k2
  · exact (g 1 (by omega)).trans k3
  · exact (g 2 (by omega)).trans k4
  · exact (g 3 (by omega)).trans k5
  · exact (g _ (by omega)).trans (k6 x hx)
  · obtain ⟨p1, p2, p3⟩ := k7 x t hx ht
    exact ⟨(g _ (by omega)).trans p1, (g _ (by omega)).trans p2, (g _ (by omega)).trans p3⟩
  · obtain ⟨p1, p2, p3⟩ := k8 s hs
    exact ⟨(g _ (by omega)).trans p1, (g _ (by omega)).trans p2, (g _ (by omega)).trans p3⟩
  · exact (g _ (by omega)).trans (k9 s e hs he)
  · obtain ⟨p1, p2, p3, p4, p5, p6⟩ := k10 u hu
    exact ⟨(g _ (by omega)).trans p1, (g _ (by omega)).trans p2, (g _ (by omega)).trans p3, (g _ (by omega)).trans p4, (g _ (by omega)).trans p5, (g _ (by omega)).trans p6⟩
end
