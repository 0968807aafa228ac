/-! Slots: agree, told, odd, count -/
section
variable {d e : ya_D} {M : pm_M} {G : ya_G}
theorem pt_lIn {t : Nat} (h : t < 20) : (nI t).toInt64 = lN t := nI_l (by omega)
/-- whether the rows agree with what would come at a price -/
theorem pt_agree1 (hI : pm_I d M) {k : Nat} (hk : k < 4) {q m w : Nat} (hq : G.2.2 82 k = some q) (hV : pt_V d k q (3 * m) w) {x t y : Nat} (hx : x < M 0 3) (ht : t < M 0 1) (hy : y < 100) : ∃ b : Bool, f_X11_crowdsAgree G (nI k) (nI x) (nI t) (nI y) d = some (if b = true then 1 else 0) ∧ f_X12_agrees (nI k) (nI x) (nI t) (nI y) d = some (if b = true then 1 else 0) := by
  have hb := pm_b hI.2.2
  obtain ⟨v1, v2, v3, v4, v5, v6, v7⟩ := hV
  obtain ⟨c, hc⟩ : ∃ c, c = nI (pn_sum (fun b => if pm_co M x t y b then 1 else 0) (M 0 5)) := ⟨_, rfl⟩
  have hC : f_X12_comeAt (nI x) (nI t) (nI y) d = some c := by rw [hc]; exact pm_comeAt hI.2 (by omega) (by omega) (by omega)
  have hC1 : f_X1_countComing 35 (nI x) (nI t) (nI y) d = some c := by rw [hc]; exact pm_countComing hI (by omega) (by omega) (by omega)
  have key := pq_lp2x (G := fun fu i (_ : Unit) => f_X11_crowdsAgree_L34 G q (nI x) (nI t) c d fu (nI (3 * i))) (E := fun r : Int32 => some r)
    (G' := fun fu i (_ : Unit) => f_X12_agrees_L3 (nI k) (nI x) (nI t) (nI y) d fu (nI (3 * i))) (E' := fun r : Int32 => some r) (n := m)
    (I := fun _ _ _ => True) (Q := fun r r' => r = r' ∧ (r = 0 ∨ r = 1))
    (fun fu s s' h => ⟨1, 1, ⟨rfl, Or.inr rfl⟩, by
      rw [f_X11_crowdsAgree_L34, v3, show (2 : Int32) = nI 2 from rfl, nI_add, if_pos ((nI_leI (by omega) (by omega)).2 (by omega))], by
      rw [f_X12_agrees_L3, pn_rI hk (by omega), pb_s, v4, if_pos ((nI_leI (by omega) (by omega)).2 (by omega))]⟩)
    (fun fu i s s' hi h => by
      have a1 : ∀ B : Option Int32, f_X11_crowdsAgree_L34 G q (nI x) (nI t) c d (fu + 1) (nI (3 * i)) = if d.2 (q + 1) (3 * i) = (nI x).toInt64 ∧ d.2 (q + 1) (3 * i + 1) = (nI t).toInt64 ∧ ¬ d.2 (q + 1) (3 * i + 2) = c.toInt64 then some 0 else f_X11_crowdsAgree_L34 G q (nI x) (nI t) c d fu (nI (3 * (i + 1))) := fun _ => by
        rw [f_X11_crowdsAgree_L34, v3, show (2 : Int32) = nI 2 from rfl, nI_add, if_neg (by rw [pn_le (by omega) (by omega)]; omega), pn_rL (by omega) (by omega), pb_s, pj_1, pj_0]
        try dsimp only
        rw [nI_1, pn_rL (by omega) (by omega), pb_s, pj_0, pj_0]
        try dsimp only
        rw [show (3 : Int32) = nI 3 from rfl, nI_add, show 3 * i + 3 = 3 * (i + 1) by omega, pn_rL (by omega) (by omega), pb_s]
        by_cases c1 : d.2 (q + 1) (3 * i) = (nI x).toInt64
        · by_cases c2 : d.2 (q + 1) (3 * i + 1) = (nI t).toInt64
          · by_cases c3 : d.2 (q + 1) (3 * i + 2) = c.toInt64
            · rw [if_pos c1, if_pos c2, if_neg pn_10, if_pos c3, if_neg (fun z => z.2.2 c3)]
            · rw [if_pos c1, if_pos c2, if_neg pn_10, if_neg c3, if_pos ⟨c1, c2, c3⟩]
          · rw [if_pos c1, if_neg c2, if_pos rfl, if_neg (fun z => c2 z.2.1)]
        · rw [if_neg c1, if_pos rfl, if_neg (fun z => c1 z.1)]
      have a2 : f_X12_agrees_L3 (nI k) (nI x) (nI t) (nI y) d (fu + 1) (nI (3 * i)) = if d.2 (q + 1) (3 * i) = (nI x).toInt64 ∧ d.2 (q + 1) (3 * i + 1) = (nI t).toInt64 ∧ ¬ d.2 (q + 1) (3 * i + 2) = c.toInt64 then some 0 else f_X12_agrees_L3 (nI k) (nI x) (nI t) (nI y) d fu (nI (3 * (i + 1))) := by
        rw [f_X12_agrees_L3, pn_rI hk (by omega), pb_s, v4, if_neg (by rw [pn_le (by omega) (by omega)]; omega), pt_num hk (by omega), pb_s, ← v7 _ (by omega), pj_1, pj_0]
        try dsimp only
        rw [nI_1, pt_num hk (by omega), pb_s, ← v7 _ (by omega), pj_0, pj_0]
        try dsimp only
        rw [show (3 : Int32) = nI 3 from rfl, nI_add, show 3 * i + 3 = 3 * (i + 1) by omega, hC, pb_s, show (2 : Int32) = nI 2 from rfl, nI_add, pt_num hk (by omega), pb_s, ← v7 _ (by omega)]
        by_cases c1 : d.2 (q + 1) (3 * i) = (nI x).toInt64
        · by_cases c2 : d.2 (q + 1) (3 * i + 1) = (nI t).toInt64
          · by_cases c3 : d.2 (q + 1) (3 * i + 2) = c.toInt64
            · rw [if_pos c1, if_pos c2, if_neg pn_10, if_pos c3.symm, if_neg (fun z => z.2.2 c3)]
            · rw [if_pos c1, if_pos c2, if_neg pn_10, if_neg (fun z => c3 z.symm), if_pos ⟨c1, c2, c3⟩]
          · rw [if_pos c1, if_neg c2, if_pos rfl, if_neg (fun z => c2 z.2.1)]
        · rw [if_neg c1, if_pos rfl, if_neg (fun z => c1 z.1)]
      rw [a1 none, a2]
      by_cases c1 : d.2 (q + 1) (3 * i) = (nI x).toInt64 ∧ d.2 (q + 1) (3 * i + 1) = (nI t).toInt64 ∧ ¬ d.2 (q + 1) (3 * i + 2) = c.toInt64
      · exact Or.inl ⟨0, 0, ⟨rfl, Or.inl rfl⟩, if_pos c1, if_pos c1⟩
      · exact Or.inr ⟨(), (), trivial, if_neg c1, if_neg c1⟩)
  obtain ⟨r, r', ⟨rfl, hr⟩, k1, k2⟩ := key ya_F 0 () () (by omega) (by rw [ya_F]; omega) trivial
  have k3 : f_X11_crowdsAgree G (nI k) (nI x) (nI t) (nI y) d = some r := by
    rw [f_X11_crowdsAgree, pt_lk hk, hq]
    dsimp only
    rw [hC1, pb_s]
    exact k1
  have k4 : f_X12_agrees (nI k) (nI x) (nI t) (nI y) d = some r := by
    rw [f_X12_agrees]
    exact k2
  rcases hr with rfl | rfl
  · exact ⟨false, k3, k4⟩
  · exact ⟨true, k3, k4⟩
theorem pt_agreeF (hI : pm_I d M) {k : Nat} (hk : k < 4) {q m w : Nat} (hq : G.2.2 82 k = some q) (hV : pt_V d k q (3 * m) w) {x t : Nat} (hx : x < M 0 3) (ht : t < M 0 1) : ∃ A : Nat → Bool, ∀ y, y < 100 → f_X11_crowdsAgree G (nI k) (nI x) (nI t) (nI y) d = some (if A y = true then 1 else 0) ∧ f_X12_agrees (nI k) (nI x) (nI t) (nI y) d = some (if A y = true then 1 else 0) := by
  have h : ∀ y, ∃ b : Bool, y < 100 → f_X11_crowdsAgree G (nI k) (nI x) (nI t) (nI y) d = some (if b = true then 1 else 0) ∧ f_X12_agrees (nI k) (nI x) (nI t) (nI y) d = some (if b = true then 1 else 0) := fun y => by
    rcases Nat.lt_or_ge y 100 with c | c
    · obtain ⟨b, hb⟩ := pt_agree1 hI hk hq hV hx ht c
      exact ⟨b, fun _ => hb⟩
    · exact ⟨true, fun z => absurd z (by omega)⟩
  exact ⟨fun y => Classical.choose (h y), fun y => Classical.choose_spec (h y)⟩
theorem pt_agree (hI : pm_I d M) (hS : ∀ k, k < 4 → pt_S G d k) (v1 v2 v3 : Int32) : ∃ r, f_X11_agree G v1 v2 v3 d = some r ∧ f_X12_agree v1 v2 v3 d = some r := by
  unfold f_X11_agree f_X12_agree
  rw [pm_areSo1 hI, pm_areSo2 hI.2, pb_s, pb_s]
  by_cases e1 : pn_ok v2 (M 0 3) ∧ pn_ok v3 (M 0 1)
  · obtain ⟨x, hx, rfl⟩ := pn_ok_e e1.1
    obtain ⟨t, ht, rfl⟩ := pn_ok_e e1.2
    rw [if_pos e1, if_neg pn_10]
    by_cases e2 : pn_ok v1 4
    · obtain ⟨k, hk, rfl⟩ := pn_ok_e e2
      obtain ⟨r, h1, h2, hr⟩ := pt_refuse hI hk (hS k hk) 1 pn_10
      rw [h1, h2, pb_s, pb_s]
      rcases hr with rfl | rfl | ⟨rfl, q, m, w, hq, hV, -⟩
      · exact ⟨-2, by rw [if_neg (by decide)], by rw [if_neg (by decide)]⟩
      · exact ⟨-6, by rw [if_neg (by decide)], by rw [if_neg (by decide)]⟩
      · rw [if_pos rfl, if_pos (by decide)]
        obtain ⟨A, hA⟩ := pt_agreeF hI hk hq hV hx ht
        have key := pq_lp2 (G := fun fu i (s : Int32) => f_X11_agree_L33 G (nI k) (nI x) (nI t) d fu s (nI i)) (E := fun r : Int32 => some r)
          (G' := fun fu i (s : Int32) => f_X12_agree_L27 (nI k) (nI x) (nI t) d fu s (nI i)) (E' := fun r : Int32 => some r) (n := 100)
          (I := fun _ s s' => s = s') (Q := fun r r' => r = r')
          (fun fu s s' h => ⟨s, s', h, by rw [f_X11_agree_L33, if_pos (by decide)], by rw [f_X12_agree_L27, if_pos (by decide)]⟩)
          (fun fu i s s' hi h => by
            subst h
            have h99 : ¬ (99 : Int32) < nI i := by rw [show (99 : Int32) = nI 99 from rfl, pn_lt (by omega) (by omega)]; omega
            by_cases c : A i = true
            · exact ⟨s + 1, s + 1, rfl, by rw [f_X11_agree_L33, if_neg h99, (hA i hi).1, pb_s, pj_1, if_pos c, if_neg pn_10, nI_1], by rw [f_X12_agree_L27, if_neg h99, (hA i hi).2, pb_s, pj_1, if_pos c, if_neg pn_10, nI_1]⟩
            · exact ⟨s, s, rfl, by rw [f_X11_agree_L33, if_neg h99, (hA i hi).1, pb_s, pj_1, if_neg c, if_pos rfl, nI_1], by rw [f_X12_agree_L27, if_neg h99, (hA i hi).2, pb_s, pj_1, if_neg c, if_pos rfl, nI_1]; exact congrArg (fun z => f_X12_agree_L27 (nI k) (nI x) (nI t) d fu z (nI (i + 1))) (Int32.add_zero s)⟩)
        obtain ⟨r, r', rfl, k1, k2⟩ := key ya_F 0 0 0 (by omega) (by rw [ya_F]; omega) rfl
        exact ⟨r, k1, k2⟩
    · refine ⟨-2, ?_, ?_⟩
      · rw [f_X11_refuseCrowds, pt_slot1, pb_s, if_neg e2, if_pos rfl, pb_s, if_neg (by decide)]
      · rw [f_X12_asksCrowds, pt_slot2, pb_s, pj_0, if_neg e2, if_pos rfl, pb_s, if_neg (by decide)]
  · refine ⟨-2, ?_, ?_⟩
    · rw [if_neg e1, if_pos rfl]
    · rw [if_neg e1, f_X12_asksCrowds, pt_slot2, pb_s, pj_0]
      by_cases e2 : pn_ok v1 4
      · rw [if_pos e2, if_neg pn_10, if_pos rfl, pb_s, if_neg (by decide)]
      · rw [if_neg e2, if_pos rfl, pb_s, if_neg (by decide)]
/-- the first and the last of the prices below n at which A holds -/
def pt_fst (A : Nat → Bool) (n : Nat) (r : Int32) : Prop := (r = -1 ∧ ∀ y, y < n → A y = false) ∨ ∃ y, y < n ∧ r = nI y ∧ A y = true ∧ ∀ z, z < y → A z = false
def pt_lst (A : Nat → Bool) (n : Nat) (r : Int32) : Prop := (r = -1 ∧ ∀ y, y < n → A y = false) ∨ ∃ y, y < n ∧ r = nI y ∧ A y = true ∧ ∀ z, y < z → z < n → A z = false
theorem pt_fst_u {A : Nat → Bool} {n : Nat} {r r' : Int32} (h : pt_fst A n r) (h' : pt_fst A n r') : r = r' := by
  rcases h with ⟨h1, h2⟩ | ⟨y, h1, h2, h3, h4⟩ <;> rcases h' with ⟨k1, k2⟩ | ⟨z, k1, k2, k3, k4⟩
  · rw [h1, k1]
  · rw [h2 z k1] at k3; cases k3
  · rw [k2 y h1] at h3; cases h3
  · rcases Nat.lt_trichotomy y z with c | c | c
    · rw [k4 y c] at h3; cases h3
    · rw [h2, k2, c]
    · rw [h4 z c] at k3; cases k3
theorem pt_lst_u {A : Nat → Bool} {n : Nat} {r r' : Int32} (h : pt_lst A n r) (h' : pt_lst A n r') : r = r' := by
  rcases h with ⟨h1, h2⟩ | ⟨y, h1, h2, h3, h4⟩ <;> rcases h' with ⟨k1, k2⟩ | ⟨z, k1, k2, k3, k4⟩
  · rw [h1, k1]
  · rw [h2 z k1] at k3; cases k3
  · rw [k2 y h1] at h3; cases h3
  · rcases Nat.lt_trichotomy y z with c | c | c
    · rw [h4 z c k1] at k3; cases k3
    · rw [h2, k2, c]
    · rw [k4 y c h1] at h3; cases h3
theorem pt_m1n {a : Nat} (h : a < 2 ^ 31) : ¬ nI a = -1 := pn_m1 h
theorem pt_told (hI : pm_I d M) (hS : ∀ k, k < 4 → pt_S G d k) (v1 v2 v3 v4 : Int32) : ∃ r, f_X11_told G v1 v2 v3 v4 d = some r ∧ f_X12_told_ v1 v2 v3 v4 d = some r := by
  unfold f_X11_told f_X12_told_
  rw [pm_areSo1 hI, pm_areSo2 hI.2, pb_s, pb_s, pj_0, pj_1, pj_0, pn_wN v4 2 1 (by decide), pn_inN v4 2 1 (by decide), pb_s, pb_s]
  have bad : (f_X12_asksCrowds v1 0 d).bind (fun x27 => if 0 ≤ x27 then f_X12_told__L49 v1 v2 v3 v4 d (fun (v6_96 : Int32) (v7_96 : Int32) => if v4 = 0 then some v6_96 else some v7_96) ya_F (-1) (-1) 0 else some x27) = some (-2) := by
    rw [f_X12_asksCrowds, pt_slot2, pb_s, pj_0]
    by_cases e2 : pn_ok v1 4
    · rw [if_pos e2, if_neg pn_10, if_pos rfl, pb_s, if_neg (by decide)]
    · rw [if_neg e2, if_pos rfl, pb_s, if_neg (by decide)]
  by_cases e1 : pn_ok v2 (M 0 3) ∧ pn_ok v3 (M 0 1)
  · by_cases e4 : pn_ok v4 2
    · rw [if_pos e1, if_neg pn_10, if_neg pn_10, if_pos e4, if_neg pn_10, if_neg pn_10]
      obtain ⟨x, hx, rfl⟩ := pn_ok_e e1.1
      obtain ⟨t, ht, rfl⟩ := pn_ok_e e1.2
      by_cases e2 : pn_ok v1 4
      · obtain ⟨k, hk, rfl⟩ := pn_ok_e e2
        obtain ⟨r, h1, h2, hr⟩ := pt_refuse hI hk (hS k hk) 1 pn_10
        rw [h1, pb_s]
        dsimp only
        rw [h2, pb_s]
        rcases hr with rfl | rfl | ⟨rfl, q, m, w, hq, hV, -⟩
        · exact ⟨-2, by rw [if_neg (by decide)], by rw [if_neg (by decide)]⟩
        · exact ⟨-6, by rw [if_neg (by decide)], by rw [if_neg (by decide)]⟩
        · rw [if_pos rfl, if_pos (by decide)]
          obtain ⟨A, hA⟩ := pt_agreeF hI hk hq hV hx ht
          -- the reference: first and last
          obtain ⟨K, hK⟩ : ∃ K : Int32 → Int32 → Option Int32, K = fun (v6_96 : Int32) (v7_96 : Int32) => if v4 = 0 then some v6_96 else some v7_96 := ⟨_, rfl⟩
          have keyR := pq_lp (G := fun fu i (s : Int32 × Int32) => f_X12_told__L49 (nI k) (nI x) (nI t) v4 d K fu s.1 s.2 (nI i)) (E := fun s : Int32 × Int32 => K s.1 s.2) (n := 100)
            (I := fun i s => pt_fst A i s.1 ∧ pt_lst A i s.2) (Q := fun s => pt_fst A 100 s.1 ∧ pt_lst A 100 s.2)
            (fun fu s hs => ⟨s, hs, by rw [f_X12_told__L49, if_pos (by decide)]⟩)
            (fun fu i s hi hs => by
              have h99 : ¬ (99 : Int32) < nI i := by rw [show (99 : Int32) = nI 99 from rfl, pn_lt (by omega) (by omega)]; omega
              by_cases c : A i = true
              · have hl : pt_lst A (i + 1) (nI i) := Or.inr ⟨i, Nat.lt_succ_self i, rfl, c, fun z z1 z2 => absurd z1 (by omega)⟩
                rcases hs.1 with ⟨g1, g2⟩ | ⟨y, g1, g2, g3, g4⟩
                · exact Or.inr ⟨(nI i, nI i), ⟨Or.inr ⟨i, Nat.lt_succ_self i, rfl, c, g2⟩, hl⟩, by
                    dsimp only
                    rw [f_X12_told__L49, if_neg h99, (hA i hi).2, pb_s, pj_2, if_pos c, if_neg pn_10, pj_1, if_pos g1, nI_1]⟩
                · exact Or.inr ⟨(s.1, nI i), ⟨Or.inr ⟨y, by omega, g2, g3, g4⟩, hl⟩, by
                    dsimp only
                    rw [f_X12_told__L49, if_neg h99, (hA i hi).2, pb_s, pj_2, if_pos c, if_neg pn_10, pj_1, if_neg (by rw [g2]; exact pt_m1n (by omega)), nI_1]⟩
              · have c' : A i = false := by simpa using c
                refine Or.inr ⟨s, ⟨?_, ?_⟩, by
                    rw [f_X12_told__L49, if_neg h99, (hA i hi).2, pb_s, pj_2, if_neg c, if_pos rfl, nI_1]⟩
                · rcases hs.1 with ⟨g1, g2⟩ | ⟨y, g1, g2, g3, g4⟩
                  · refine Or.inl ⟨g1, fun y hy => ?_⟩
                    rcases Nat.lt_or_ge y i with z | z
                    · exact g2 y z
                    · rw [show y = i by omega]; exact c'
                  · exact Or.inr ⟨y, by omega, g2, g3, g4⟩
                · rcases hs.2 with ⟨g1, g2⟩ | ⟨y, g1, g2, g3, g4⟩
                  · refine Or.inl ⟨g1, fun y hy => ?_⟩
                    rcases Nat.lt_or_ge y i with z | z
                    · exact g2 y z
                    · rw [show y = i by omega]; exact c'
                  · refine Or.inr ⟨y, by omega, g2, g3, fun z z1 z2 => ?_⟩
                    rcases Nat.lt_or_ge z i with w | w
                    · exact g4 z z1 w
                    · rw [show z = i by omega]; exact c')
          obtain ⟨s, ⟨f1, f2⟩, f3⟩ := keyR ya_F 0 (-1, -1) (by omega) (by rw [ya_F]; omega) ⟨Or.inl ⟨rfl, fun y hy => absurd hy (Nat.not_lt_zero y)⟩, Or.inl ⟨rfl, fun y hy => absurd hy (Nat.not_lt_zero y)⟩⟩
          dsimp only at f3
          -- the class
          by_cases c4 : v4 = 0
          · have keyC := pq_lp (G := fun fu i (_ : Unit) => f_X11_told_L40 G (nI k) (nI x) (nI t) v4 d fu (nI i)) (E := fun r : Int32 => some r) (n := 100)
              (I := fun i _ => ∀ y, y < i → A y = false) (Q := fun r => pt_fst A 100 r)
              (fun fu s hs => ⟨-1, Or.inl ⟨rfl, hs⟩, by rw [f_X11_told_L40, if_pos (by decide)]⟩)
              (fun fu i s hi hs => by
                have h99 : ¬ (99 : Int32) < nI i := by rw [show (99 : Int32) = nI 99 from rfl, pn_lt (by omega) (by omega)]; omega
                by_cases c : A i = true
                · exact Or.inl ⟨nI i, Or.inr ⟨i, hi, rfl, c, hs⟩, by rw [f_X11_told_L40, if_neg h99, pj_1, if_pos c4]; dsimp only; rw [(hA i hi).1, pb_s, if_pos c, if_neg pn_10]⟩
                · exact Or.inr ⟨(), fun y hy => by
                    rcases Nat.lt_or_ge y i with z | z
                    · exact hs y z
                    · rw [show y = i by omega]; simpa using c, by rw [f_X11_told_L40, if_neg h99, pj_1, if_pos c4]; dsimp only; rw [(hA i hi).1, pb_s, if_neg c, if_pos rfl, nI_1]⟩)
            obtain ⟨r, g1, g2⟩ := keyC ya_F 0 () (by omega) (by rw [ya_F]; omega) (fun y hy => absurd hy (Nat.not_lt_zero y))
            refine ⟨r, g2, ?_⟩
            rw [← hK]
            refine f3.trans ?_
            rw [hK]
            dsimp only
            rw [if_pos c4, pt_fst_u f1 g1]
          · have keyC := pq_lp (G := fun fu i (_ : Unit) => f_X11_told_L40 G (nI k) (nI x) (nI t) v4 d fu (nI i)) (E := fun r : Int32 => some r) (n := 100)
              (I := fun i _ => ∀ y, 100 - i ≤ y → y < 100 → A y = false) (Q := fun r => pt_lst A 100 r)
              (fun fu s hs => ⟨-1, Or.inl ⟨rfl, fun y hy => hs y (by omega) hy⟩, by rw [f_X11_told_L40, if_pos (by decide)]⟩)
              (fun fu i s hi hs => by
                have h99 : ¬ (99 : Int32) < nI i := by rw [show (99 : Int32) = nI 99 from rfl, pn_lt (by omega) (by omega)]; omega
                have h99' : (99 : Int32) - nI i = nI (99 - i) := by rw [show (99 : Int32) = nI 99 from rfl, pn_sub (by omega)]
                by_cases c : A (99 - i) = true
                · exact Or.inl ⟨nI (99 - i), Or.inr ⟨99 - i, by omega, rfl, c, fun z z1 z2 => hs z (by omega) z2⟩, by rw [f_X11_told_L40, if_neg h99, pj_1, if_neg c4, h99']; dsimp only; rw [(hA (99 - i) (by omega)).1, pb_s, if_pos c, if_neg pn_10]⟩
                · exact Or.inr ⟨(), fun y hy hy2 => by
                    rcases Nat.lt_or_ge y (100 - i) with z | z
                    · rw [show y = 99 - i by omega]; simpa using c
                    · exact hs y z hy2, by rw [f_X11_told_L40, if_neg h99, pj_1, if_neg c4, h99']; dsimp only; rw [(hA (99 - i) (by omega)).1, pb_s, if_neg c, if_pos rfl, nI_1]⟩)
            obtain ⟨r, g1, g2⟩ := keyC ya_F 0 () (by omega) (by rw [ya_F]; omega) (fun y hy hy2 => absurd hy (by omega))
            refine ⟨r, g2, ?_⟩
            rw [← hK]
            refine f3.trans ?_
            rw [hK]
            dsimp only
            rw [if_neg c4, pt_lst_u f2 g1]
      · refine ⟨-2, ?_, ?_⟩
        · rw [f_X11_refuseCrowds, pt_slot1, pb_s, if_neg e2, if_pos rfl, pb_s, if_neg (by decide)]
        · dsimp only
          rw [f_X12_asksCrowds, pt_slot2, pb_s, pj_0, if_neg e2, if_pos rfl, pb_s, if_neg (by decide)]
    · rw [if_pos e1, if_neg pn_10, if_neg pn_10, if_neg e4, if_pos rfl, if_pos rfl]
      exact ⟨-2, rfl, bad⟩
  · rw [if_neg e1, if_pos rfl, if_pos rfl]
    exact ⟨-2, rfl, bad⟩
theorem pt_isM2 (hJ : pm_J d M) : f_X12_isMarket d = some (if M 0 1 = 0 then 0 else 1) := pm_isMarket2 hJ
theorem pt_odd (hI : pm_I d M) (hS : ∀ k, k < 4 → pt_S G d k) (v1 : Int32) : ∃ r, f_X11_odd G v1 d = some r ∧ f_X12_odd v1 d = some r := by
  have hb := pm_b hI.2.2
  unfold f_X11_odd f_X12_odd
  rw [pm_isMarket1 hI, pm_isMarket2 hI.2, pb_s, pb_s, pj_1]
  dsimp only
  have bad : ∀ z : Int32, f_X12_asksCrowds v1 0 d = some (-2) := fun _ => by
    rw [f_X12_asksCrowds, pt_slot2, pb_s, pj_0]
    by_cases e2 : pn_ok v1 4
    · rw [if_pos e2, if_neg pn_10, if_pos rfl]
    · rw [if_neg e2, if_pos rfl]
  by_cases e1 : M 0 1 = 0
  · rw [if_pos e1, if_pos rfl, if_neg (by decide), bad 0, pb_s, if_neg (by decide)]
    exact ⟨-2, rfl, rfl⟩
  · rw [if_neg e1, if_neg pn_10]
    by_cases e2 : pn_ok v1 4
    · obtain ⟨k, hk, rfl⟩ := pn_ok_e e2
      obtain ⟨r, h1, h2, hr⟩ := pt_refuse hI hk (hS k hk) 1 pn_10
      rw [h1, h2, pb_s, pb_s]
      rcases hr with rfl | rfl | ⟨rfl, q, m, w, hq, hV, hok⟩
      · exact ⟨-2, by rw [if_neg (by decide)], by rw [if_neg (by decide)]⟩
      · exact ⟨-6, by rw [if_neg (by decide)], by rw [if_neg (by decide)]⟩
      · rw [if_pos rfl, if_pos (by decide), pt_lk hk, hq]
        obtain ⟨v1, v2, v3, v4, v5, v6, v7⟩ := hV
        have key := pq_lp2x (G := fun fu i (_ : Unit) => f_X11_odd_L41 G q d fu (nI (3 * i))) (E := fun r : Int32 => some r)
          (G' := fun fu i (_ : Unit) => f_X12_odd_L18 (nI k) d fu (nI i)) (E' := fun r : Int32 => some r) (n := m)
          (I := fun _ _ _ => True) (Q := fun r r' => r = r')
          (fun fu s s' h => ⟨-1, -1, rfl, by
            rw [f_X11_odd_L41, v3, show (2 : Int32) = nI 2 from rfl, nI_add, if_pos ((nI_leI (by omega) (by omega)).2 (by omega))], by
            rw [f_X12_odd_L18, pn_rI hk (by omega), pb_s, v4, show (3 : Int32) = nI 3 from rfl, pn_mul, if_pos ((nI_leI (by omega) (by omega)).2 (by omega))]⟩)
          (fun fu i s s' hi h => by
            obtain ⟨o1, o2⟩ := hok i hi
            obtain ⟨x, hx, ex⟩ := pt_ok_ex o1
            obtain ⟨t, ht, et⟩ := pt_ok_ex o2
            have hp : M 2 (20 * x + t) ≤ 99 := (pm_pr hI.2.2 hx ht).1
            obtain ⟨c, hc⟩ : ∃ c, c = nI (pn_sum (fun b => if pm_co M x t (M 2 (20 * x + t)) b then 1 else 0) (M 0 5)) := ⟨_, rfl⟩
            have hC : f_X12_comeAt (nI x) (nI t) (nI (M 2 (20 * x + t))) d = some c := by rw [hc]; exact pm_comeAt hI.2 (by omega) (by omega) (by omega)
            have hC1 : f_X1_countComing 35 (nI x) (nI t) (nI (M 2 (20 * x + t))) d = some c := by rw [hc]; exact pm_countComing hI (by omega) (by omega) (by omega)
            have hx1 : pn_ok (nI x) (M 0 3) ∧ pn_ok (nI t) (M 0 1) := ⟨pn_ok_nI hx (by omega), pn_ok_nI ht (by omega)⟩
            have hpr : f_X11_price (nI x) (nI t) d = some (nI (M 2 (20 * x + t))) := by rw [pm_price1 hI, if_pos hx1, nI_clamp (by omega), nI_clamp (by omega)]
            have hco : f_X11_come (nI x) (nI t) (nI (M 2 (20 * x + t))) d = some c := by
              rw [f_X11_come, pm_areSo1 hI, pb_s, pj_0, if_pos hx1, if_neg pn_10, pn_wN _ 100 99 (by decide), pb_s, if_pos (pn_ok_nI (by omega) (by omega)), if_neg pn_10, hC1, pb_s]
            have hp2 : f_X12_priceOf (nI x) (nI t) d = some (nI (M 2 (20 * x + t))) := pm_p2 hI.2 hx ht
            have a1 : f_X11_odd_L41 G q d (fu + 1) (nI (3 * i)) = if c.toInt64 = d.2 (q + 1) (3 * i + 2) then f_X11_odd_L41 G q d fu (nI (3 * (i + 1))) else some (nI i) := by
              rw [f_X11_odd_L41, v3, show (2 : Int32) = nI 2 from rfl, nI_add, if_neg (by rw [pn_le (by omega) (by omega)]; omega), pn_rL (by omega) (by omega), pb_s, nI_1, pn_rL (by omega) (by omega), pb_s, ex, et, lN_i, lN_i, hpr, pb_s, hco, pb_s, pn_rL (by omega) (by omega), pb_s, show (3 : Int32) = nI 3 from rfl, nI_add, show 3 * i + 3 = 3 * (i + 1) by omega, pk_div (d := 3) (by omega) (by omega) (by omega), show 3 * i / 3 = i by omega]
            have a2 : f_X12_odd_L18 (nI k) d (fu + 1) (nI i) = if c.toInt64 = d.2 (q + 1) (3 * i + 2) then f_X12_odd_L18 (nI k) d fu (nI (i + 1)) else some (nI i) := by
              rw [f_X12_odd_L18, pn_rI hk (by omega), pb_s, v4, show (3 : Int32) = nI 3 from rfl, pn_mul, if_neg (by rw [pn_le (by omega) (by omega)]; omega), pt_num hk (by omega), pb_s, ← v7 _ (by omega), nI_1, pt_num hk (by omega), pb_s, ← v7 _ (by omega), ex, et, lN_i, lN_i, hp2, pb_s, hC, pb_s, show (2 : Int32) = nI 2 from rfl, nI_add, pt_num hk (by omega), pb_s, ← v7 _ (by omega), nI_1]
            rw [a1, a2]
            by_cases c1 : c.toInt64 = d.2 (q + 1) (3 * i + 2)
            · exact Or.inr ⟨(), (), trivial, if_pos c1, if_pos c1⟩
            · exact Or.inl ⟨nI i, nI i, rfl, if_neg c1, if_neg c1⟩)
        obtain ⟨r, r', rfl, k1, k2⟩ := key ya_F 0 () () (by omega) (by rw [ya_F]; omega) trivial
        exact ⟨r, k1, k2⟩
    · refine ⟨-2, ?_, ?_⟩
      · rw [f_X11_refuseCrowds, pt_slot1, pb_s, if_neg e2, if_pos rfl, pb_s, if_neg (by decide)]
      · rw [f_X12_asksCrowds, pt_slot2, pb_s, pj_0, if_neg e2, if_pos rfl, pb_s, if_neg (by decide)]
theorem pt_rows (hS : ∀ k, k < 4 → pt_S G d k) : ∃ r, f_X11_rowsThere G = some r ∧ f_X12_count_L106 d ya_F 0 0 = some r := by
  have key := pq_lp2 (G := fun fu i (s : Int32) => f_X11_rowsThere_L4 G fu s (nI i)) (E := fun r : Int32 => some r)
    (G' := fun fu i (s : Int32) => f_X12_count_L106 d fu s (nI i)) (E' := fun r : Int32 => some r) (n := 4)
    (I := fun _ s s' => s = s') (Q := fun r r' => r = r')
    (fun fu s s' h => ⟨s, s', h, by rw [f_X11_rowsThere_L4, if_pos (by decide)], by rw [f_X12_count_L106, if_pos (by decide)]⟩)
    (fun fu i s s' hi h => by
      subst h
      have h4 : ¬ (4 : Int32) ≤ nI i := by rw [show (4 : Int32) = nI 4 from rfl, pn_le (by omega) (by omega)]; omega
      rcases hS i hi with ⟨s1, s2⟩ | ⟨q, n, w, s1, s2, s3, s4⟩
      · refine ⟨s, s, rfl, ?_, ?_⟩
        · rw [f_X11_rowsThere_L4, if_neg h4, pt_lk hi, s1, nI_1]
        · rw [f_X12_count_L106, if_neg h4, pn_rI hi (by omega), pb_s, pj_1, s2, if_pos rfl, nI_1]; exact congrArg (fun z => f_X12_count_L106 d fu z (nI (i + 1))) (Int32.add_zero s)
      · have hm1 : ¬ d.1 104 i = -1 := by rw [s4.2.2.2.1]; exact pn_m1 (by have := s4.1; omega)
        refine ⟨s + 1, s + 1, rfl, ?_, ?_⟩
        · rw [f_X11_rowsThere_L4, if_neg h4, pt_lk hi, s1, nI_1]
        · rw [f_X12_count_L106, if_neg h4, pn_rI hi (by omega), pb_s, pj_1, if_neg hm1, nI_1])
  obtain ⟨r, r', rfl, k1, k2⟩ := key ya_F 0 0 0 (by omega) (by rw [ya_F]; omega) rfl
  exact ⟨r, by rw [f_X11_rowsThere]; exact k1, k2⟩
theorem pt_count (hI : pm_I d M) (hT : pt_T d) (hS : ∀ k, k < 4 → pt_S G d k) (v1 : Int32) : ∃ r, f_X11_count G v1 d = some r ∧ f_X12_count v1 d = some r := by
  have hb := pm_b hI.2.2
  have hc := pk_c hI.1
  have hr := pk_r hI.2.1
  obtain ⟨n, b, t1, t2, t3, -⟩ := hT
  have hrd : ∀ j, j < 468 → ya_rI d 84 468 (nI j) = some (d.1 84 j) := fun j hj => pn_rI hj (by omega)
  unfold f_X11_count f_X12_count
  by_cases c0 : v1 = 0
  · exact ⟨nI (M 0 1), by rw [if_pos c0, hc.2.1], by rw [if_pos c0, show (0 : Int32) = nI 0 from rfl, hrd 0 (by omega), pb_s, hr.2.1]⟩
  rw [if_neg c0, if_neg c0]
  by_cases c1 : v1 = 1
  · exact ⟨nI (M 0 3), by rw [if_pos c1, hc.2.2.2.1], by rw [if_pos c1, show (1 : Int32) = nI 1 from rfl, hrd 1 (by omega), pb_s, hr.2.2.2.1]⟩
  rw [if_neg c1, if_neg c1]
  by_cases c2 : v1 = 2
  · exact ⟨nI (M 0 4), by rw [if_pos c2, hc.2.2.2.2.1], by rw [if_pos c2, show (2 : Int32) = nI 2 from rfl, hrd 2 (by omega), pb_s, hr.2.2.2.2.1]⟩
  rw [if_neg c2, if_neg c2]
  by_cases c3 : v1 = 3
  · exact ⟨nI (M 0 5), by rw [if_pos c3, hc.2.2.2.2.2.1], by rw [if_pos c3, show (3 : Int32) = nI 3 from rfl, hrd 3 (by omega), pb_s, hr.2.2.2.2.2.1]⟩
  rw [if_neg c3, if_neg c3]
  by_cases c4 : v1 = 4
  · exact ⟨nI (M 0 0), by rw [if_pos c4, hc.1], by rw [if_pos c4, show (4 : Int32) = nI 4 from rfl, hrd 4 (by omega), pb_s, hr.1]⟩
  rw [if_neg c4, if_neg c4]
  by_cases c5 : v1 = 5
  · exact ⟨nI n, by rw [if_pos c5, t2], by rw [if_pos c5, t3]⟩
  rw [if_neg c5, if_neg c5]
  by_cases c6 : v1 = 6
  · exact ⟨nI (M 0 2), by rw [if_pos c6, hc.2.2.1], by rw [if_pos c6, show (5 : Int32) = nI 5 from rfl, hrd 5 (by omega), pb_s, hr.2.2.1]⟩
  rw [if_neg c6, if_neg c6]
  by_cases c7 : v1 = 7
  · exact ⟨_, by rw [if_pos c7, pm_marked1 hI, pb_s], by rw [if_pos c7, pm_marked2 hI.2, pb_s]⟩
  rw [if_neg c7, if_neg c7]
  by_cases c8 : v1 = 8
  · obtain ⟨r, k1, k2⟩ := pt_rows hS
    exact ⟨r, by rw [if_pos c8, k1, pb_s], by rw [if_pos c8, k2]⟩
  rw [if_neg c8, if_neg c8]
  exact ⟨-1, rfl, rfl⟩
end
