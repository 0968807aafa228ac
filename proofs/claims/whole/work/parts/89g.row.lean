/-! Slots: row, paste -/
section
variable {d d' : ya_D} {M : pm_M} {G G' : ya_G}
theorem pt_begin (d : ya_D) (q : Nat) (v1 v2 : Int32) : ∃ d', f_X4_begin q v1 v2 d = some d' ∧ d'.1 q 1 = v1 ∧ d'.1 q 2 = v2 ∧ (∀ a z, (a ≠ q ∨ (z ≠ 1 ∧ z ≠ 2)) → d'.1 a z = d.1 a z) ∧ ∀ a z, d'.2 a z = if a = q + 1 ∧ z < 60 then 0 else d.2 a z := by
  refine ⟨_, by rw [f_X4_begin, pb_pI, pb_s, pb_pI, pb_s, ya_fL, pb_s], ?_, ?_, fun a z h => ?_, fun a z => ?_⟩
  · show (ya_sI (ya_sI d q 1 v1) q 2 v2).1 q 1 = v1
    rw [pn_o (by omega)]; exact pn_e ⟨rfl, rfl⟩
  · show (ya_sI (ya_sI d q 1 v1) q 2 v2).1 q 2 = v2
    exact pn_e ⟨rfl, rfl⟩
  · show (ya_sI (ya_sI d q 1 v1) q 2 v2).1 a z = d.1 a z
    rw [pn_o (by omega), pn_o (by omega)]
  · rfl
/-- the reference's row after the class's -/
theorem pt_row2 {k q n w : Nat} (hk : k < 4) (hq : G'.2.2 82 k = some q) (h1 : 108 ≤ q) (h2 : q + 2 ≤ G'.1) (hn : n ≤ 60) (hw : w < 4) (e1 : d.1 q 1 = nI w) (e2 : d.1 q 2 = nI n) (e3 : ∀ i, i < 60 → d.2 (q + 1) i = 0) : ∃ d2, f_X12_row (nI k) (nI w) (nI n) d = some (0, d2) ∧ pt_S G' d2 k ∧ (∀ a z, (a ≠ 104 ∨ z ≠ k) → (a ≠ 105 ∨ z ≠ k) → d2.1 a z = d.1 a z) ∧ ∀ a z, (a ≠ 106 ∨ z < 60 * k ∨ 60 * k + 60 ≤ z) → d2.2 a z = d.2 a z := by
  obtain ⟨g, hg⟩ : ∃ g, g = ya_sI (ya_sI d 104 k (nI n)) 105 k (nI w) := ⟨_, rfl⟩
  have key := pq_lp (G := fun fu i (s : ya_D) => f_X12_row_L52 (nI k) fu (nI i) s) (E := fun s : ya_D => some ((0 : Int32), s)) (n := 60)
    (I := fun i s => s.1 = g.1 ∧ (∀ a z, (a ≠ 106 ∨ z < 60 * k ∨ 60 * k + i ≤ z) → s.2 a z = g.2 a z) ∧ ∀ j, j < i → s.2 106 (60 * k + j) = 0)
    (Q := fun s => s.1 = g.1 ∧ (∀ a z, (a ≠ 106 ∨ z < 60 * k ∨ 60 * k + 60 ≤ z) → s.2 a z = g.2 a z) ∧ ∀ j, j < 60 → s.2 106 (60 * k + j) = 0)
    (fun fu s hs => ⟨s, hs, by rw [f_X12_row_L52, if_pos (by decide)]⟩)
    (fun fu i s hi hs => Or.inr ⟨ya_sL s 106 (60 * k + i) 0, ⟨hs.1, fun a z c => by rw [pn_sL, if_neg (by omega), hs.2.1 a z (by omega)], fun j hj => by
        rw [pn_sL]
        by_cases c : j = i
        · rw [if_pos ⟨rfl, by rw [c]⟩]
        · rw [if_neg (by omega), hs.2.2 j (by omega)]⟩, by
        rw [f_X12_row_L52, if_neg (by rw [show (60 : Int32) = nI 60 from rfl, pn_le (by omega) (by omega)]; omega), show (60 : Int32) = nI 60 from rfl, pn_mul, nI_add, pn_wL (by omega) (by omega), pb_s, nI_1]⟩)
  obtain ⟨d2, ⟨k1, k2, k3⟩, k4⟩ := key ya_F 0 g (by omega) (by rw [ya_F]; omega) ⟨rfl, fun _ _ _ => rfl, fun j hj => absurd hj (Nat.not_lt_zero j)⟩
  have F1 : ∀ a z, (a ≠ 104 ∨ z ≠ k) → (a ≠ 105 ∨ z ≠ k) → d2.1 a z = d.1 a z := fun a z c1 c2 => by
    rw [k1, hg, pn_o c2, pn_o c1]
  have F2 : ∀ a z, (a ≠ 106 ∨ z < 60 * k ∨ 60 * k + 60 ≤ z) → d2.2 a z = d.2 a z := fun a z c => by
    rw [k2 a z c, hg]; rfl
  refine ⟨d2, ?_, Or.inr ⟨q, n, w, hq, h1, h2, hn, hw, ?_, ?_, ?_, ?_, fun i hi => ?_⟩, F1, F2⟩
  · rw [f_X12_row, pt_slot2, pb_s, pj_0, if_pos (pn_ok_nI hk (by omega)), if_neg pn_10, pn_inN _ 4 3 (by decide), pb_s, if_pos (pn_ok_nI hw (by omega)), if_neg pn_10, if_pos (by rw [show (60 : Int32) = nI 60 from rfl, pn_le (by omega) (by omega)]; exact hn), if_pos (by rw [show (0 : Int32) = nI 0 from rfl, pn_le (by omega) (by omega)]; omega), pn_wI hk (by omega), pb_s, pn_wI hk (by omega), pb_s, ← hg]
    exact k4
  · rw [F1 _ _ (by omega) (by omega)]; exact e2
  · rw [k1, hg, pn_o (by omega)]; exact pn_e ⟨rfl, rfl⟩
  · rw [F1 _ _ (by omega) (by omega)]; exact e1
  · rw [k1, hg]; exact pn_e ⟨rfl, rfl⟩
  · rw [F2 _ _ (by omega), e3 i hi, k3 i hi]
theorem pg_row {k : Nat} (hG : pg_G G) (hk : k < 4) (hq : G.2.2 82 k = none) : pg_G (g_rwB G.1 k G) ∧ (∀ j, j ≠ k → (g_rwB G.1 k G).2.2 82 j = G.2.2 82 j) ∧ ∀ j, (g_rwB G.1 k G).2.2 81 j = G.2.2 81 j := by
  obtain ⟨g0, g1, g2, g3, g4, g5⟩ := hG
  have r1 : ∀ j, j ≠ k → (g_rwB G.1 k G).2.2 82 j = G.2.2 82 j := fun j hj => g_rwB_r (by omega) (Or.inr hj)
  have r2 : ∀ j, (g_rwB G.1 k G).2.2 81 j = G.2.2 81 j := fun j => g_rwB_r (by omega) (Or.inl (by omega))
  have r3 : (g_rwB G.1 k G).1 = G.1 + 2 := (g_rwB_le rfl).2
  have r4 : (g_rwB G.1 k G).2.2 82 k = some G.1 := g_rwB_new
  have r5 : ∀ j q, j < 4 → (g_rwB G.1 k G).2.2 82 j = some q → (j = k ∧ q = G.1) ∨ (j ≠ k ∧ G.2.2 82 j = some q) := fun j q hj h => by
    by_cases c : j = k
    · subst c
      rw [r4] at h
      exact Or.inl ⟨rfl, (Option.some.inj h).symm⟩
    · exact Or.inr ⟨c, by rw [← r1 j c]; exact h⟩
  refine ⟨⟨by omega, fun j q hj h => ?_, fun j q hj h => ?_, fun j j' q q' hj hj' hne h h' => ?_, fun j j' q q' hj hj' hne h h' => ?_, fun j j' q q' hj hj' h h' => ?_⟩, r1, r2⟩
  · rcases r5 j q hj h with ⟨_, c⟩ | ⟨_, c⟩
    · omega
    · have := g1 j q hj c; omega
  · rw [r2] at h; have := g2 j q hj h; omega
  · rcases r5 j q hj h with ⟨c1, c⟩ | ⟨c1, c⟩ <;> rcases r5 j' q' hj' h' with ⟨z1, z⟩ | ⟨z1, z⟩
    · omega
    · have := g1 j' q' hj' z; omega
    · have := g1 j q hj c; omega
    · exact g3 j j' q q' hj hj' hne c z
  · rw [r2] at h h'; exact g4 j j' q q' hj hj' hne h h'
  · rw [r2] at h'
    have := g2 j' q' hj' h'
    rcases r5 j q hj h with ⟨c1, c⟩ | ⟨c1, c⟩
    · omega
    · exact g5 j j' q q' hj hj' c h'
theorem pt_row (hG : pg_G G) (hS : ∀ k, k < 4 → pt_S G d k) (v1 v2 v3 : Int32) : ∃ r G' d1 d2, f_row G v1 v2 v3 d = some (r, G', d1) ∧ f_X12_row v1 v2 v3 d1 = some (r, d2) ∧ pg_G G' ∧ (∀ k, k < 4 → pt_S G' d2 k) ∧ pt_SF G d G' d2 := by
  by_cases e : pn_ok v1 4 ∧ pn_ok v2 4 ∧ pn_ok v3 61
  · obtain ⟨k, hk, rfl⟩ := pn_ok_e e.1
    obtain ⟨w, hw, rfl⟩ := pn_ok_e e.2.1
    obtain ⟨n, hn, rfl⟩ := pn_ok_e e.2.2
    have hc : (nI k).toNatClampNeg = k := nI_clamp (by omega)
    have c60 : nI n ≤ 60 := by rw [show (60 : Int32) = nI 60 from rfl, pn_le (by omega) (by omega)]; omega
    have c0 : (0 : Int32) ≤ nI n := by rw [show (0 : Int32) = nI 0 from rfl, pn_le (by omega) (by omega)]; omega
    have lt0 : ∀ x, x < 2 ^ 31 → ¬ nI x < 0 := fun x hx => by rw [show (0 : Int32) = nI 0 from rfl, pn_lt hx (by omega)]; omega
    have hin : ¬ (nI k < 0 ∨ 4 ≤ (nI k).toNatClampNeg ∨ nI w < 0 ∨ 3 < nI w ∨ nI n < 0 ∨ 60 < nI n) := by
      rw [hc]
      rintro (c | c | c | c | c | c)
      · exact lt0 k (by omega) c
      · omega
      · exact lt0 w (by omega) c
      · rw [show (3 : Int32) = nI 3 from rfl, pn_lt (by omega) (by omega)] at c; omega
      · exact lt0 n (by omega) c
      · rw [show (60 : Int32) = nI 60 from rfl, pn_lt (by omega) (by omega)] at c; omega
    cases hq : G.2.2 82 k with
    | some q =>
      obtain ⟨b1, b2⟩ := hG.2.1 k q hk hq
      obtain ⟨d1, A1, A2, A3, A4, A5⟩ := pt_begin d q (nI w) (nI n)
      obtain ⟨d2, B1, B2, B3, B4⟩ := pt_row2 (d := d1) (G' := G) hk hq b1 b2 (by omega) hw A2 A3 (fun i hi => by rw [A5, if_pos ⟨rfl, hi⟩])
      refine ⟨0, G, d1, d2, ?_, B1, hG, fun j hj => ?_, fun _ => rfl, fun a z z1 z2 z3 => ?_, fun a z z1 z2 z3 => ?_, fun j q' hj hq' a a1 a2 => ?_, Nat.le_refl _⟩
      · rw [f_row, if_neg hin, hc, hq]
        dsimp only
        rw [f_X11_row, pt_slot1, pb_s, pj_0, if_pos (pn_ok_nI hk (by omega)), if_neg pn_10, pn_wN _ 4 3 (by decide), pb_s, if_pos (pn_ok_nI hw (by omega)), if_neg pn_10, if_pos c60, if_pos c0, pt_lk hk, hq]
        dsimp only
        rw [pt_lk hk, hq]
        dsimp only
        rw [A1, pb_s, pb_s]
      · by_cases c : j = k
        · rw [c]; exact B2
        · refine pt_S_c (hS j hj) rfl (Nat.le_refl _) ?_ ?_ (fun i hi => ?_) (fun q' hq' => ?_)
          · rw [B3 _ _ (by omega) (by omega), A4 _ _ (by omega)]
          · rw [B3 _ _ (by omega) (by omega), A4 _ _ (by omega)]
          · rw [B4 _ _ (by omega), A5, if_neg (by omega)]
          · have x1 := hG.2.2.2.1 j k q' q hj hk c hq' hq
            have x2 := hG.2.1 j q' hj hq'
            refine ⟨by rw [B3 _ _ (by omega) (by omega), A4 _ _ (by omega)], by rw [B3 _ _ (by omega) (by omega), A4 _ _ (by omega)], fun i hi => by rw [B4 _ _ (by omega), A5, if_neg (by omega)]⟩
      · rw [B3 _ _ (by omega) (by omega), A4 _ _ (by omega)]
      · rw [B4 _ _ (by omega), A5, if_neg (by omega)]
      · have x1 := hG.2.2.2.2.2 k j q q' hk hj hq hq'
        have x2 := hG.2.2.1 j q' hj hq'
        exact ⟨funext fun z => by rw [B3 _ _ (by omega) (by omega), A4 _ _ (by omega)], funext fun z => by rw [B4 _ _ (by omega), A5, if_neg (by omega)]⟩
    | none =>
      have h0 := hG.1
      obtain ⟨p1, p2, p3⟩ := pg_row hG hk hq
      obtain ⟨d1, A1, A2, A3, A4, A5⟩ := pt_begin (iD_X4_init G.1 (G.1 + 1) (ya_nE G.1 d)) G.1 (nI w) (nI n)
      have D1 : ∀ a z, a < G.1 → (iD_X4_init G.1 (G.1 + 1) (ya_nE G.1 d)).1 a z = d.1 a z := fun a z h => by
        show (if a = G.1 + 1 + 0 then 0 else (if a = G.1 then 0 else d.1 a z)) = _
        rw [if_neg (by omega), if_neg (by omega)]
      have D2 : ∀ a z, a < G.1 → (iD_X4_init G.1 (G.1 + 1) (ya_nE G.1 d)).2 a z = d.2 a z := fun a z h => by
        show (if a = G.1 + 1 + 0 then 0 else (if a = G.1 then 0 else d.2 a z)) = _
        rw [if_neg (by omega), if_neg (by omega)]
      obtain ⟨d2, B1, B2, B3, B4⟩ := pt_row2 (d := d1) (G' := g_rwB G.1 k G) hk g_rwB_new h0 (Nat.le_of_eq (g_rwB_le rfl).2.symm) (by omega) hw A2 A3 (fun i hi => by rw [A5, if_pos ⟨rfl, hi⟩])
      refine ⟨0, g_rwB G.1 k G, d1, d2, ?_, B1, p1, fun j hj => ?_, p3, fun a z z1 z2 z3 => ?_, fun a z z1 z2 z3 => ?_, fun j q' hj hq' a a1 a2 => ?_, by rw [(g_rwB_le rfl).2]; omega⟩
      · rw [f_row, if_neg hin, hc, hq]
        dsimp only
        rw [f_X11_rowB, pt_slot1, pb_s, if_pos (pn_ok_nI hk (by omega)), if_neg pn_10, pn_wN _ 4 3 (by decide), pb_s, if_pos (pn_ok_nI hw (by omega)), if_neg pn_10, if_pos c60, if_pos c0, A1, pb_s, pb_s]
      · by_cases c : j = k
        · rw [c]; exact B2
        · refine pt_S_c (hS j hj) (p2 j c) (by rw [(g_rwB_le rfl).2]; omega) ?_ ?_ (fun i hi => ?_) (fun q' hq' => ?_)
          · rw [B3 _ _ (by omega) (by omega), A4 _ _ (by omega), D1 _ _ (by omega)]
          · rw [B3 _ _ (by omega) (by omega), A4 _ _ (by omega), D1 _ _ (by omega)]
          · rw [B4 _ _ (by omega), A5, if_neg (by omega), D2 _ _ (by omega)]
          · have x2 := hG.2.1 j q' hj hq'
            refine ⟨by rw [B3 _ _ (by omega) (by omega), A4 _ _ (by omega), D1 _ _ (by omega)], by rw [B3 _ _ (by omega) (by omega), A4 _ _ (by omega), D1 _ _ (by omega)], fun i hi => by rw [B4 _ _ (by omega), A5, if_neg (by omega), D2 _ _ (by omega)]⟩
      · rw [B3 _ _ (by omega) (by omega), A4 _ _ (by omega), D1 _ _ (by omega)]
      · rw [B4 _ _ (by omega), A5, if_neg (by omega), D2 _ _ (by omega)]
      · have x2 := hG.2.2.1 j q' hj hq'
        exact ⟨funext fun z => by rw [B3 _ _ (by omega) (by omega), A4 _ _ (by omega), D1 _ _ (by omega)], funext fun z => by rw [B4 _ _ (by omega), A5, if_neg (by omega), D2 _ _ (by omega)]⟩
  · -- refused
    have z0 : ∀ v : Int32, (v < 0) = (v.toInt < 0) := fun v => propext (Int32.lt_iff_toInt_lt.trans (by rw [nI_toInt0]))
    have z60 : (v3 ≤ 60) = (v3.toInt ≤ 60) := propext (Int32.le_iff_toInt_le.trans (by rw [show (60 : Int32).toInt = 60 from by decide]))
    have zn0 : ((0 : Int32) ≤ v3) = (0 ≤ v3.toInt) := propext (Int32.le_iff_toInt_le.trans (by rw [nI_toInt0]))
    have hin : v1 < 0 ∨ 4 ≤ v1.toNatClampNeg ∨ v2 < 0 ∨ 3 < v2 ∨ v3 < 0 ∨ 60 < v3 := by
      by_cases c1 : pn_ok v1 4
      · by_cases c2 : pn_ok v2 4
        · have c3 : ¬ pn_ok v3 61 := fun c => e ⟨c1, c2, c⟩
          have y60 : (60 < v3) = (60 < v3.toInt) := propext (Int32.lt_iff_toInt_lt.trans (by rw [show (60 : Int32).toInt = 60 from by decide]))
          rw [z0 v3, y60]
          unfold pn_ok at c3
          omega
        · have y3 : (3 < v2) = (3 < v2.toInt) := propext (Int32.lt_iff_toInt_lt.trans (by rw [show (3 : Int32).toInt = 3 from by decide]))
          rw [z0 v2, y3]
          unfold pn_ok at c2
          omega
      · have y4 : v1.toNatClampNeg = v1.toInt.toNat := rfl
        rw [z0 v1, y4]
        unfold pn_ok at c1
        omega
    have both : ∃ r : Int32, f_X11_row G v1 v2 v3 d = some (r, d) ∧ f_X12_row v1 v2 v3 d = some (r, d) := by
      rw [f_X11_row, f_X12_row, pt_slot1, pt_slot2, pb_s, pb_s, pj_0, pj_0, pn_wN _ 4 3 (by decide), pn_inN _ 4 3 (by decide), pb_s, pb_s]
      by_cases c1 : pn_ok v1 4
      · rw [if_pos c1, if_neg pn_10, if_neg pn_10]
        by_cases c2 : pn_ok v2 4
        · rw [if_pos c2, if_neg pn_10, if_neg pn_10]
          by_cases c3 : v3 ≤ 60
          · rw [if_pos c3, if_pos c3]
            have c4 : ¬ (0 : Int32) ≤ v3 := fun c4 => e ⟨c1, c2, by
              rw [z60] at c3; rw [zn0] at c4
              exact ⟨c4, by omega⟩⟩
            rw [if_neg c4, if_neg c4]
            exact ⟨-3, rfl, rfl⟩
          · rw [if_neg c3, if_neg c3]
            exact ⟨-2, rfl, rfl⟩
        · rw [if_neg c2, if_pos rfl, if_pos rfl]
          exact ⟨-2, rfl, rfl⟩
      · rw [if_neg c1, if_pos rfl, if_pos rfl]
        exact ⟨-2, rfl, rfl⟩
    obtain ⟨r, h1, h2⟩ := both
    refine ⟨r, G, d, d, ?_, h2, hG, hS, pt_SF_r G d⟩
    rw [f_row, if_pos hin, h1, pb_s]
end
