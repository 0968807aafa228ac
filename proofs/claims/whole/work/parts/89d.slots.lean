/-! Slots: what the questions about rows read -/
abbrev pt_ok (x : Int64) (n : Nat) : Prop := 0 ≤ x.toInt ∧ x.toInt < n
theorem pt_z64 : (0 : Int64).toInt = 0 := by decide
theorem pt_ok_ex {x : Int64} {n : Nat} (h : pt_ok x n) : ∃ t, t < n ∧ x = lN t := by
  obtain ⟨h1, h2⟩ := h
  obtain ⟨t, ht, rfl⟩ := pk_lOf (x := x) (by rw [Int64.lt_iff_toInt_lt, pt_z64]; omega)
  refine ⟨t, ?_, rfl⟩
  rw [show (lN t).toInt = (t : Int) from Int64.toInt_ofNat_of_lt ht] at h2
  omega
theorem pt_in (x : Int64) {n : Nat} (hn : n < 2 ^ 31) : f_X12_in x 0 (nI n - 1).toInt64 = some (if pt_ok x n then 1 else 0) := by
  have e2 : (nI n - 1).toInt = (n : Int) - 1 := by
    rw [Int32.toInt_sub, nI_toInt hn, show (1 : Int32).toInt = 1 from by decide, Int.bmod_def]
    omega
  have e0 : (x < 0) = (x.toInt < 0) := propext (Int64.lt_iff_toInt_lt.trans (by rw [pt_z64]))
  have e1 : ((nI n - 1).toInt64 < x) = ((n : Int) ≤ x.toInt) := propext (Int64.lt_iff_toInt_lt.trans (by rw [Int32.toInt_toInt64, e2]; omega))
  simp only [f_X12_in, ya_j0, e0, e1, pt_ok]
  by_cases h0 : x.toInt < 0
  · rw [if_pos h0, if_neg (by omega)]
  · rw [if_neg h0]
    by_cases h1 : (n : Int) ≤ x.toInt
    · rw [if_pos h1, if_neg (by omega)]
    · rw [if_neg h1, if_pos (by omega)]
theorem pt_cl {γ : Type} (x : Int64) {n : Nat} (hn : n < 2 ^ 31) (A B : γ) : (if x < 0 then A else if (nI n).toInt64 ≤ x then A else B) = if pt_ok x n then B else A := by
  have e0 : (x < 0) = (x.toInt < 0) := propext (Int64.lt_iff_toInt_lt.trans (by rw [pt_z64]))
  have e1 : ((nI n).toInt64 ≤ x) = ((n : Int) ≤ x.toInt) := propext (Int64.le_iff_toInt_le.trans (by rw [Int32.toInt_toInt64, nI_toInt hn]))
  simp only [e0, e1, pt_ok]
  by_cases h0 : x.toInt < 0
  · rw [if_pos h0, if_neg (by omega)]
  · rw [if_neg h0]
    by_cases h1 : (n : Int) ≤ x.toInt
    · rw [if_pos h1, if_neg (by omega)]
    · rw [if_neg h1, if_pos (by omega)]
theorem pt_cl' {γ : Type} (x : Int64) {n : Nat} (hn : n < 2 ^ 31) (A B : γ) : (if x < 0 then A else if x < (nI n).toInt64 then B else A) = if pt_ok x n then B else A := by
  have e0 : (x < 0) = (x.toInt < 0) := propext (Int64.lt_iff_toInt_lt.trans (by rw [pt_z64]))
  have e1 : (x < (nI n).toInt64) = (x.toInt < (n : Int)) := propext (Int64.lt_iff_toInt_lt.trans (by rw [Int32.toInt_toInt64, nI_toInt hn]))
  simp only [e0, e1, pt_ok]
  by_cases h0 : x.toInt < 0
  · rw [if_pos h0, if_neg (by omega)]
  · rw [if_neg h0]
    by_cases h1 : x.toInt < (n : Int)
    · rw [if_pos h1, if_pos (by omega)]
    · rw [if_neg h1, if_neg (by omega)]
theorem pt_slot1 (v : Int32) : f_X11_isSlot v = some (if pn_ok v 4 then 1 else 0) := by
  unfold f_X11_isSlot
  rw [pj_0, show (4 : Int32) = nI 4 from rfl, pn_cl v (by omega)]
  split <;> rfl
theorem pt_slot2 (v : Int32) : f_X12_isSlot v = some (if pn_ok v 4 then 1 else 0) := by
  unfold f_X12_isSlot
  rw [pn_inN v 4 _ (by decide), pb_s, pn_zz, pb_s]
theorem pt_lk {γ : Type} {G : ya_G} {k : Nat} (hk : k < 4) (A : Option γ) (B : Nat → Option γ) : ya_lk G 82 4 (nI k) A B = match G.2.2 82 k with | none => A | some q => B q := by
  unfold ya_lk
  rw [if_neg (nI_in hk (by omega)), nI_clamp (by omega)]
  rfl
section
variable {d e : ya_D} {M : pm_M} {G : ya_G}
theorem pt_thing2 (h : pm_J d M) (x : Int64) : f_X12_isThing x d = some (if pt_ok x (M 0 3) then 1 else 0) := by
  have hb := pm_b h.2
  unfold f_X12_isThing
  rw [show (1 : Int32) = nI 1 from rfl, pn_rI (by omega) (by omega), Option.bind_some, show d.1 84 1 = nI (M 0 3) from h.1.2.2.2.1, show nI 1 = (1 : Int32) from rfl, pt_in x (by omega), Option.bind_some, pn_zz, Option.bind_some]
theorem pt_day2 (h : pm_J d M) (x : Int64) : f_X12_isDay x d = some (if pt_ok x (M 0 1) then 1 else 0) := by
  have hb := pm_b h.2
  unfold f_X12_isDay
  rw [show ya_rI d 84 468 0 = some (nI (M 0 1)) from (pn_rI (t := 0) (by omega) (by omega)).trans (congrArg some h.1.2.1), Option.bind_some, pt_in x (by omega), Option.bind_some, pn_zz, Option.bind_some]
/-- a row of the class (its two cells from q on), and the reference's -/
def pt_V (d : ya_D) (k q n w : Nat) : Prop := n ≤ 60 ∧ w < 4 ∧ d.1 q 2 = nI n ∧ d.1 104 k = nI n ∧ d.1 q 1 = nI w ∧ d.1 105 k = nI w ∧ ∀ i, i < 60 → d.2 (q + 1) i = d.2 106 (60 * k + i)
def pt_S (G : ya_G) (d : ya_D) (k : Nat) : Prop := (G.2.2 82 k = none ∧ d.1 104 k = -1) ∨ ∃ q n w, G.2.2 82 k = some q ∧ 108 ≤ q ∧ q + 2 ≤ G.1 ∧ pt_V d k q n w
theorem pt_num {k i : Nat} (hk : k < 4) (hi : i < 60) : f_X12_numberAt (nI k) (nI i) d = some (d.2 106 (60 * k + i)) := by
  unfold f_X12_numberAt
  rw [show (60 : Int32) = nI 60 from rfl, pn_mul, nI_add, pn_rL (by omega) (by omega), pb_s]
theorem pt_refuse (hI : pm_I d M) {k : Nat} (hk : k < 4) (hS : pt_S G d k) (z : Int32) (hz : ¬ z = 0) : ∃ r, f_X11_refuseCrowds G (nI k) d = some r ∧ f_X12_asksCrowds (nI k) z d = some r ∧ (r = -2 ∨ r = -6 ∨ (r = 0 ∧ ∃ q m w, G.2.2 82 k = some q ∧ pt_V d k q (3 * m) w ∧ ∀ i, i < m → pt_ok (d.2 (q + 1) (3 * i)) (M 0 3) ∧ pt_ok (d.2 (q + 1) (3 * i + 1)) (M 0 1))) := by
  have hb := pm_b hI.2.2
  have hc := pk_c hI.1
  have hok : pn_ok (nI k) 4 := pn_ok_nI hk (by omega)
  rcases hS with ⟨s1, s2⟩ | ⟨q, n, w, s1, s2, s3, s4⟩
  · refine ⟨-6, ?_, ?_, Or.inr (Or.inl rfl)⟩
    · rw [f_X11_refuseCrowds, pt_slot1, pb_s, if_pos hok, if_neg pn_10, pt_lk hk, s1]
    · rw [f_X12_asksCrowds, pt_slot2, pb_s, pj_0, if_pos hok, if_neg pn_10, if_neg hz, pn_rI hk (by omega), pb_s, s2, if_pos rfl]
  · obtain ⟨v1, v2, v3, v4, v5, v6, v7⟩ := s4
    have hm1 : ¬ nI n = -1 := pn_m1 (by omega)
    have e3 : nI n - nI n / 3 * 3 = nI (n % 3) := by
      rw [show (3 : Int32) = nI 3 from rfl, pk_div (d := 3) (by omega) (by omega) (by omega), pn_mul, pn_sub (by omega), show n - n / 3 * 3 = n % 3 by omega]
    by_cases c : n % 3 = 0
    · obtain ⟨m, rfl⟩ : ∃ m, n = 3 * m := ⟨n / 3, by omega⟩
      have key := pq_lp2x (G := fun fu i (_ : Unit) => f_X11_refuseCrowds_L38 G q d (some (-2)) fu (nI (3 * i))) (E := fun r : Int32 => some r)
        (G' := fun fu i (_ : Unit) => f_X12_asksCrowds_L43 (nI k) d (some (-2)) fu (nI (3 * i))) (E' := fun r : Int32 => some r) (n := m)
        (I := fun i _ _ => ∀ j, j < i → pt_ok (d.2 (q + 1) (3 * j)) (M 0 3) ∧ pt_ok (d.2 (q + 1) (3 * j + 1)) (M 0 1))
        (Q := fun r r' => r = r' ∧ (r = -2 ∨ (r = 0 ∧ ∀ j, j < m → pt_ok (d.2 (q + 1) (3 * j)) (M 0 3) ∧ pt_ok (d.2 (q + 1) (3 * j + 1)) (M 0 1))))
        (fun fu s s' h => ⟨0, 0, ⟨rfl, Or.inr ⟨rfl, h⟩⟩, by
          rw [f_X11_refuseCrowds_L38, v3, nI_1, if_pos ((nI_leI (by omega) (by omega)).2 (by omega))], by
          rw [f_X12_asksCrowds_L43, pn_rI hk (by omega), pb_s, v4, if_pos ((nI_leI (by omega) (by omega)).2 (by omega))]⟩)
        (fun fu i s s' hi h => by
          have a1 : ∀ B : Option Int32, f_X11_refuseCrowds_L38 G q d (some (-2)) (fu + 1) (nI (3 * i)) = if pt_ok (d.2 (q + 1) (3 * i)) (M 0 3) then (if pt_ok (d.2 (q + 1) (3 * i + 1)) (M 0 1) then f_X11_refuseCrowds_L38 G q d (some (-2)) fu (nI (3 * (i + 1))) else some (-2)) else some (-2) := fun _ => by
            rw [f_X11_refuseCrowds_L38, v3, nI_1, if_neg (by rw [pn_le (by omega) (by omega)]; omega), pn_rL (by omega) (by omega), pb_s, pn_rL (by omega) (by omega), pb_s, hc.2.2.2.1, hc.2.1, pt_cl _ (by omega), pt_cl' _ (by omega), show (3 : Int32) = nI 3 from rfl, nI_add, show 3 * i + 3 = 3 * (i + 1) by omega]
          have a2 : f_X12_asksCrowds_L43 (nI k) d (some (-2)) (fu + 1) (nI (3 * i)) = if pt_ok (d.2 (q + 1) (3 * i)) (M 0 3) then (if pt_ok (d.2 (q + 1) (3 * i + 1)) (M 0 1) then f_X12_asksCrowds_L43 (nI k) d (some (-2)) fu (nI (3 * (i + 1))) else some (-2)) else some (-2) := by
            rw [f_X12_asksCrowds_L43, pn_rI hk (by omega), pb_s, v4, if_neg (by rw [pn_le (by omega) (by omega)]; omega), pt_num hk (by omega), pb_s, ← v7 _ (by omega), pt_thing2 hI.2, pb_s]
            by_cases c1 : pt_ok (d.2 (q + 1) (3 * i)) (M 0 3)
            · rw [if_pos c1, if_pos c1, if_neg pn_10, nI_1, pt_num hk (by omega), pb_s, ← v7 _ (by omega), pt_day2 hI.2, pb_s]
              by_cases c2 : pt_ok (d.2 (q + 1) (3 * i + 1)) (M 0 1)
              · rw [if_pos c2, if_pos c2, if_neg pn_10, show (3 : Int32) = nI 3 from rfl, nI_add, show 3 * i + 3 = 3 * (i + 1) by omega]
              · rw [if_neg c2, if_neg c2, if_pos rfl]
            · rw [if_neg c1, if_neg c1, if_pos rfl]
          rw [a1 none, a2]
          by_cases c1 : pt_ok (d.2 (q + 1) (3 * i)) (M 0 3)
          · by_cases c2 : pt_ok (d.2 (q + 1) (3 * i + 1)) (M 0 1)
            · refine Or.inr ⟨(), (), fun j hj => ?_, by rw [if_pos c1, if_pos c2], by rw [if_pos c1, if_pos c2]⟩
              rcases Nat.lt_or_ge j i with z | z
              · exact h j z
              · obtain rfl : j = i := by omega
                exact ⟨c1, c2⟩
            · exact Or.inl ⟨-2, -2, ⟨rfl, Or.inl rfl⟩, by rw [if_pos c1, if_neg c2], by rw [if_pos c1, if_neg c2]⟩
          · exact Or.inl ⟨-2, -2, ⟨rfl, Or.inl rfl⟩, by rw [if_neg c1], by rw [if_neg c1]⟩)
      obtain ⟨r, r', ⟨rfl, hr⟩, k1, k2⟩ := key ya_F 0 () () (by omega) (by rw [ya_F]; omega) (fun j hj => absurd hj (Nat.not_lt_zero j))
      refine ⟨r, ?_, ?_, hr.elim Or.inl (fun z => Or.inr (Or.inr ⟨z.1, q, m, w, s1, ⟨v1, v2, v3, v4, v5, v6, v7⟩, z.2⟩))⟩
      · rw [f_X11_refuseCrowds, pt_slot1, pb_s, if_pos hok, if_neg pn_10, pt_lk hk, s1]
        dsimp only
        rw [v3, e3, if_pos (by rw [c]; rfl)]
        exact k1
      · rw [f_X12_asksCrowds, pt_slot2, pb_s, pj_0, if_pos hok, if_neg pn_10, if_neg hz, pn_rI hk (by omega), pb_s, v4, if_neg hm1, pb_s, e3, if_pos (by rw [c]; rfl)]
        exact k2
    · have hc0 : ¬ nI (n % 3) = 0 := by rw [show (0 : Int32) = nI 0 from rfl, nI_eq (by omega) (by omega)]; exact c
      refine ⟨-2, ?_, ?_, Or.inl rfl⟩
      · rw [f_X11_refuseCrowds, pt_slot1, pb_s, if_pos hok, if_neg pn_10, pt_lk hk, s1]
        dsimp only
        rw [v3, e3, if_neg hc0]
      · rw [f_X12_asksCrowds, pt_slot2, pb_s, pj_0, if_pos hok, if_neg pn_10, if_neg hz, pn_rI hk (by omega), pb_s, v4, if_neg hm1, pb_s, e3, if_neg hc0]
end
