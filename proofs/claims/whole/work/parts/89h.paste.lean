/-! Slots: paste -/
section
variable {d d' : ya_D} {M : pm_M} {G G' : ya_G}
/-- the numbers are copied by way of cell 107 -/
theorem pt_copy {k1 k2 a b c : Nat} (hk1 : k1 < 4) (hk2 : k2 < 4) (ha : a + c ≤ 60) (hb : b + c ≤ 60) (d : ya_D) : ∃ d2, f_X12_paste_L113 (nI k1) (nI a) (nI k2) (nI b) (nI c) (fun (d_147 : ya_D) => f_X12_paste_L150 (nI k2) (nI b) (nI c) ya_F 0 d_147) ya_F 0 d = some (0, d2) ∧ d2.1 = d.1 ∧ ∀ a' z, a' ≠ 107 → d2.2 a' z = if a' = 106 ∧ 60 * k2 + b ≤ z ∧ z < 60 * k2 + b + c then d.2 106 (60 * k1 + a + (z - (60 * k2 + b))) else d.2 a' z := by
  obtain ⟨K, hK⟩ : ∃ K : ya_D → Option (Int32 × ya_D), K = fun (d_147 : ya_D) => f_X12_paste_L150 (nI k2) (nI b) (nI c) ya_F 0 d_147 := ⟨_, rfl⟩
  have key1 := pq_lp (G := fun fu i (s : ya_D) => f_X12_paste_L113 (nI k1) (nI a) (nI k2) (nI b) (nI c) K fu (nI i) s) (E := K) (n := c)
    (I := fun i s => s.1 = d.1 ∧ (∀ a' z, a' ≠ 107 → s.2 a' z = d.2 a' z) ∧ ∀ j, j < i → s.2 107 j = d.2 106 (60 * k1 + a + j))
    (Q := fun s => s.1 = d.1 ∧ (∀ a' z, a' ≠ 107 → s.2 a' z = d.2 a' z) ∧ ∀ j, j < c → s.2 107 j = d.2 106 (60 * k1 + a + j))
    (fun fu s hs => ⟨s, hs, by rw [f_X12_paste_L113, if_pos (by rw [pn_le (by omega) (by omega)]; omega)]⟩)
    (fun fu i s hi hs => Or.inr ⟨ya_sL s 107 i (d.2 106 (60 * k1 + a + i)), ⟨hs.1, fun a' z h => by rw [pn_sL, if_neg (by omega), hs.2.1 a' z h], fun j hj => by
        rw [pn_sL]
        by_cases c1 : j = i
        · rw [if_pos ⟨rfl, c1⟩, c1]
        · rw [if_neg (by omega), hs.2.2 j (by omega)]⟩, by
        rw [f_X12_paste_L113, if_neg (by rw [pn_le (by omega) (by omega)]; omega), show (60 : Int32) = nI 60 from rfl, pn_mul, nI_add, nI_add, pn_rL (by omega) (by omega), pb_s, hs.2.1 106 _ (by omega), pn_wL (by omega) (by omega), pb_s, nI_1]⟩)
  obtain ⟨d1, ⟨h1, h2, h3⟩, h4⟩ := key1 ya_F 0 d (by omega) (by rw [ya_F]; omega) ⟨rfl, fun _ _ _ => rfl, fun j hj => absurd hj (Nat.not_lt_zero j)⟩
  have key2 := pq_lp (G := fun fu i (s : ya_D) => f_X12_paste_L150 (nI k2) (nI b) (nI c) fu (nI i) s) (E := fun s : ya_D => some ((0 : Int32), s)) (n := c)
    (I := fun i s => s.1 = d1.1 ∧ ∀ a' z, s.2 a' z = if a' = 106 ∧ 60 * k2 + b ≤ z ∧ z < 60 * k2 + b + i then d1.2 107 (z - (60 * k2 + b)) else d1.2 a' z)
    (Q := fun s => s.1 = d1.1 ∧ ∀ a' z, s.2 a' z = if a' = 106 ∧ 60 * k2 + b ≤ z ∧ z < 60 * k2 + b + c then d1.2 107 (z - (60 * k2 + b)) else d1.2 a' z)
    (fun fu s hs => ⟨s, hs, by rw [f_X12_paste_L150, if_pos (by rw [pn_le (by omega) (by omega)]; omega)]⟩)
    (fun fu i s hi hs => Or.inr ⟨ya_sL s 106 (60 * k2 + b + i) (d1.2 107 i), ⟨hs.1, fun a' z => by
        rw [pn_sL]
        by_cases c1 : a' = 106 ∧ z = 60 * k2 + b + i
        · rw [if_pos c1, if_pos (by omega), c1.2, show 60 * k2 + b + i - (60 * k2 + b) = i by omega]
        · rw [if_neg c1, hs.2]
          by_cases c2 : a' = 106 ∧ 60 * k2 + b ≤ z ∧ z < 60 * k2 + b + i
          · rw [if_pos c2, if_pos (by omega)]
          · rw [if_neg c2, if_neg (by omega)]⟩, by
        rw [f_X12_paste_L150, if_neg (by rw [pn_le (by omega) (by omega)]; omega), show (60 : Int32) = nI 60 from rfl, pn_mul, nI_add, nI_add, pn_rL (by omega) (by omega), pb_s, hs.2 107, if_neg (by omega), pn_wL (by omega) (by omega), pb_s, nI_1]⟩)
  obtain ⟨d2, ⟨g1, g2⟩, g4⟩ := key2 ya_F 0 d1 (by omega) (by rw [ya_F]; omega) ⟨rfl, fun a' z => by rw [if_neg (by omega)]⟩
  refine ⟨d2, ?_, g1.trans h1, fun a' z ha' => ?_⟩
  · rw [← hK]
    refine h4.trans ?_
    rw [hK]
    exact g4
  · rw [g2]
    by_cases c2 : a' = 106 ∧ 60 * k2 + b ≤ z ∧ z < 60 * k2 + b + c
    · rw [if_pos c2, if_pos c2, h3 _ (by omega)]
    · rw [if_neg c2, if_neg c2, h2 _ _ ha']
theorem pt_z32 (v : Int32) : (v < 0) = (v.toInt < 0) := propext (Int32.lt_iff_toInt_lt.trans (by rw [nI_toInt0]))
theorem pt_reaches {q n : Nat} (h : d.1 q 2 = nI n) (hn : n ≤ 60) (v1 v2 : Int32) : f_X4_reaches q v1 v2 d = some (if 0 ≤ v1.toInt ∧ 0 ≤ v2.toInt ∧ v1.toInt + v2.toInt ≤ n then 1 else 0) := by
  unfold f_X4_reaches
  rw [pj_0, h]
  by_cases c1 : v1 < 0
  · rw [if_pos c1]
    rw [pt_z32] at c1
    rw [if_neg (by omega)]
  · rw [if_neg c1]
    rw [pt_z32] at c1
    by_cases c2 : v2 < 0
    · rw [if_pos c2]
      rw [pt_z32] at c2
      rw [if_neg (by omega)]
    · rw [if_neg c2]
      rw [pt_z32] at c2
      have e1 : (nI n < v1) = ((n : Int) < v1.toInt) := propext (Int32.lt_iff_toInt_lt.trans (by rw [nI_toInt (by omega)]))
      by_cases c3 : nI n < v1
      · rw [if_pos c3]
        rw [e1] at c3
        rw [if_neg (by omega)]
      · rw [if_neg c3]
        rw [e1] at c3
        have e2 : (nI n - v1).toInt = (n : Int) - v1.toInt := by
          rw [Int32.toInt_sub, nI_toInt (by omega), Int.bmod_def]
          omega
        have e3 : (nI n - v1 < v2) = ((n : Int) - v1.toInt < v2.toInt) := propext (Int32.lt_iff_toInt_lt.trans (by rw [e2]))
        by_cases c4 : nI n - v1 < v2
        · rw [if_pos c4]
          rw [e3] at c4
          rw [if_neg (by omega)]
        · rw [if_neg c4]
          rw [e3] at c4
          rw [if_pos (by omega)]
theorem pt_add64 (x y : Int32) : (x.toInt64 + y.toInt64).toInt = x.toInt + y.toInt := by
  have h1 := Int32.toInt_lt x
  have h2 := Int32.le_toInt x
  have h3 := Int32.toInt_lt y
  have h4 := Int32.le_toInt y
  rw [Int64.toInt_add, Int32.toInt_toInt64, Int32.toInt_toInt64, Int.bmod_def]
  omega
theorem pt_paste (hG : pg_G G) (hS : ∀ k, k < 4 → pt_S G d k) (v1 v2 v3 v4 v5 : Int32) : ∃ r d1 d2, f_X11_paste G v1 v2 v3 v4 v5 d = some (r, d1) ∧ f_X12_paste v1 v2 v3 v4 v5 d1 = some (r, d2) ∧ (∀ k, k < 4 → pt_S G d2 k) ∧ pt_SF G d G d2 := by
  by_cases e1 : pn_ok v1 4
  · by_cases e3 : pn_ok v3 4
    · obtain ⟨k1, hk1, rfl⟩ := pn_ok_e e1
      obtain ⟨k2, hk2, rfl⟩ := pn_ok_e e3
      have C1 : f_X11_paste G (nI k1) v2 (nI k2) v4 v5 d = (match G.2.2 82 k1 with
        | none => (match G.2.2 82 k2 with | none => some ((-6), d) | some _ => some ((-6), d))
        | some q22 => (match G.2.2 82 k2 with
          | none => some ((-6), d)
          | some q30 => if (d.1 q22 1) = (d.1 q30 1) then
              (f_X4_reaches q22 v2 v5 d).bind fun x67 => if x67 = 0 then some ((-7), d) else
              (f_X4_reaches q30 v4 v5 d).bind fun x79 => if x79 = 0 then some ((-7), d) else
              (ya_kL d (q22 + 1) 60 v2 (q30 + 1) 60 v4 v5).bind fun d103 => some (0, d103)
            else some ((-8), d))) := by
        rw [f_X11_paste, pt_slot1, pb_s, pj_0, if_pos e1, if_neg pn_10, pt_slot1, pb_s, if_pos e3, if_neg pn_10, pt_lk hk1]
        cases G.2.2 82 k1 with
        | none =>
          dsimp only
          rw [pt_lk hk2]
          cases G.2.2 82 k2 <;> rfl
        | some q =>
          dsimp only
          rw [pt_lk hk2]
          cases G.2.2 82 k2 with
          | none => rfl
          | some q' => 
            dsimp only
            by_cases c : d.1 q 1 = d.1 q' 1
            · rw [if_pos c, if_pos c]
              congr 1
            · rw [if_neg c, if_neg c]
      have R1 : ∀ d0 : ya_D, f_X12_paste (nI k1) v2 (nI k2) v4 v5 d0 = (if d0.1 104 k1 = -1 then some ((-6), d0) else if d0.1 104 k2 = -1 then some ((-6), d0) else if d0.1 105 k1 = d0.1 105 k2 then (if v2 < 0 then some ((-7), d0) else if v4 < 0 then some ((-7), d0) else if v5 < 0 then some ((-7), d0) else if (d0.1 104 k1).toInt64 < v2.toInt64 + v5.toInt64 then some ((-7), d0) else if v4.toInt64 + v5.toInt64 ≤ (d0.1 104 k2).toInt64 then f_X12_paste_L113 (nI k1) v2 (nI k2) v4 v5 (fun (d_147 : ya_D) => f_X12_paste_L150 (nI k2) v4 v5 ya_F 0 d_147) ya_F 0 d0 else some ((-7), d0)) else some ((-8), d0)) := fun d0 => by
        rw [f_X12_paste, pt_slot2, pb_s, pj_0, if_pos e1, if_neg pn_10, pt_slot2, pb_s, if_pos e3, if_neg pn_10, pn_rI hk1 (by omega), pb_s, pj_0, pn_rI hk2 (by omega), pb_s, pn_rI hk1 (by omega), pb_s, pn_rI hk2 (by omega), pb_s, pj_0, pb_s, pb_s]
      rcases hS k1 hk1 with ⟨s1, s2⟩ | ⟨q, n, w, s1, s2, s3, s4⟩
      · refine ⟨-6, d, d, ?_, ?_, hS, pt_SF_r G d⟩
        · rw [C1, s1]
          dsimp only
          cases G.2.2 82 k2 <;> rfl
        · rw [R1, if_pos s2]
      · obtain ⟨g1, g2, g3, g4, g5, g6, g7⟩ := s4
        have hm1 : ¬ nI n = -1 := pn_m1 (by omega)
        rcases hS k2 hk2 with ⟨t1, t2⟩ | ⟨q', n', w', t1, t2, t3, t4⟩
        · refine ⟨-6, d, d, ?_, ?_, hS, pt_SF_r G d⟩
          · rw [C1, s1, t1]
          · rw [R1, g4, if_neg hm1, if_pos t2]
        · obtain ⟨z1, z2, z3, z4, z5, z6, z7⟩ := t4
          have hm1' : ¬ nI n' = -1 := pn_m1 (by omega)
          by_cases cw : nI w = nI w'
          · by_cases P : 0 ≤ v2.toInt ∧ 0 ≤ v4.toInt ∧ 0 ≤ v5.toInt ∧ v2.toInt + v5.toInt ≤ n ∧ v4.toInt + v5.toInt ≤ n'
            · obtain ⟨p1, p2, p3, p4, p5⟩ := P
              obtain ⟨a, ha, rfl⟩ := pn_ok_e (v := v2) (n := 61) ⟨p1, by omega⟩
              obtain ⟨b, hb, rfl⟩ := pn_ok_e (v := v4) (n := 61) ⟨p2, by omega⟩
              obtain ⟨c, hc, rfl⟩ := pn_ok_e (v := v5) (n := 61) ⟨p3, by omega⟩
              have p4' := p4
              have p5' := p5
              rw [nI_toInt (by omega), nI_toInt (by omega)] at p4' p5'
              have hkL : ya_kL d (q + 1) 60 (nI a) (q' + 1) 60 (nI b) (nI c) = some (ya_cL d (q + 1) a (q' + 1) b c) := by
                have lt0 : ∀ x, x < 2 ^ 31 → ¬ nI x < 0 := fun x hx => by rw [show (0 : Int32) = nI 0 from rfl, pn_lt hx (by omega)]; omega
                rw [ya_kL, ya_okc, decide_eq_false (lt0 a (by omega)), decide_eq_false (lt0 b (by omega)), decide_eq_false (lt0 c (by omega)), nI_clamp (by omega), nI_clamp (by omega), nI_clamp (by omega), decide_eq_false (by omega), decide_eq_false (by omega)]
                rfl
              obtain ⟨d2, k1', k2', k3'⟩ := pt_copy hk1 hk2 (a := a) (b := b) (c := c) (by omega) (by omega) (ya_cL d (q + 1) a (q' + 1) b c)
              have F1 : d2.1 = d.1 := k2'
              have E106 : ∀ z, (ya_cL d (q + 1) a (q' + 1) b c).2 106 z = d.2 106 z := fun z => by
                show (if 106 = q' + 1 ∧ b ≤ z ∧ z < b + c then _ else d.2 106 z) = _
                rw [if_neg (by omega)]
              have Eq : ∀ a' z, d2.2 a' z = d2.2 a' z := fun _ _ => rfl
              have F2 : ∀ a' z, a' ≠ 107 → a' ≠ 106 → (a' ≠ q' + 1) → d2.2 a' z = d.2 a' z := fun a' z x1 x2 x3 => by
                rw [k3' a' z x1, if_neg (by omega)]
                show (if a' = q' + 1 ∧ b ≤ z ∧ z < b + c then _ else d.2 a' z) = _
                rw [if_neg (by omega)]
              have F3 : ∀ z, d2.2 106 z = if 60 * k2 + b ≤ z ∧ z < 60 * k2 + b + c then d.2 106 (60 * k1 + a + (z - (60 * k2 + b))) else d.2 106 z := fun z => by
                rw [k3' 106 z (by omega), E106, E106]
                by_cases c1 : 60 * k2 + b ≤ z ∧ z < 60 * k2 + b + c
                · rw [if_pos ⟨rfl, c1⟩, if_pos c1]
                · rw [if_neg (fun h => c1 h.2), if_neg c1]
              have F4 : ∀ z, d2.2 (q' + 1) z = if b ≤ z ∧ z < b + c then d.2 (q + 1) (a + (z - b)) else d.2 (q' + 1) z := fun z => by
                rw [k3' (q' + 1) z (by omega), if_neg (by omega)]
                show (if q' + 1 = q' + 1 ∧ b ≤ z ∧ z < b + c then d.2 (q + 1) (a + (z - b)) else d.2 (q' + 1) z) = _
                by_cases c1 : b ≤ z ∧ z < b + c
                · rw [if_pos ⟨rfl, c1⟩, if_pos c1]
                · rw [if_neg (fun h => c1 h.2), if_neg c1]
              refine ⟨0, ya_cL d (q + 1) a (q' + 1) b c, d2, ?_, ?_, fun j hj => ?_, fun _ => rfl, fun a z _ _ _ => by rw [F1], fun a z y1 y2 y3 => F2 a z y3 y2 (by omega), fun j q'' hj hq' a a1 a2 => ?_, Nat.le_refl _⟩
              · rw [C1, s1, t1]
                dsimp only
                rw [g5, z5, if_pos cw, pt_reaches g3 g1, pb_s, if_pos (show 0 ≤ (nI a).toInt ∧ 0 ≤ (nI c).toInt ∧ (nI a).toInt + (nI c).toInt ≤ (n : Int) from ⟨p1, p3, p4⟩), if_neg pn_10, pt_reaches z3 z1, pb_s, if_pos (show 0 ≤ (nI b).toInt ∧ 0 ≤ (nI c).toInt ∧ (nI b).toInt + (nI c).toInt ≤ (n' : Int) from ⟨p2, p3, p5⟩), if_neg pn_10, hkL, pb_s]
              · rw [R1]
                have x1 : (ya_cL d (q + 1) a (q' + 1) b c).1 = d.1 := rfl
                have y1 : ∀ u v : Nat, u < 61 → v < 61 → (nI u).toInt64 + (nI v).toInt64 = lN (u + v) := fun u v hu hv => by
                  rw [nI_l (by omega), nI_l (by omega), lN_add]
                rw [x1, g4, z4, g6, z6, if_neg hm1, if_neg hm1', if_pos cw, if_neg (by rw [pt_z32]; omega), if_neg (by rw [pt_z32]; omega), if_neg (by rw [pt_z32]; omega), y1 a c ha hc, y1 b c hb hc, nI_l (by omega), nI_l (by omega), if_neg (by rw [lN_lt (by omega) (by omega)]; omega), if_pos ((lN_le (by omega) (by omega)).2 (by omega))]
                exact k1'
              · by_cases cj : j = k2
                · subst cj
                  refine Or.inr ⟨q', n', w', t1, t2, t3, z1, z2, by rw [F1]; exact z3, by rw [F1]; exact z4, by rw [F1]; exact z5, by rw [F1]; exact z6, fun i hi => ?_⟩
                  rw [F4, F3]
                  by_cases c1 : b ≤ i ∧ i < b + c
                  · rw [if_pos c1, if_pos (by omega), g7 _ (by omega), show 60 * k1 + (a + (i - b)) = 60 * k1 + a + (60 * j + i - (60 * j + b)) by omega]
                  · rw [if_neg c1, if_neg (by omega), z7 i hi]
                · refine pt_S_c (hS j hj) rfl (Nat.le_refl _) (by rw [F1]) (by rw [F1]) (fun i hi => ?_) (fun q'' hq'' => ⟨by rw [F1], by rw [F1], fun i hi => ?_⟩)
                  · rw [F3, if_neg (by omega)]
                  · have x1 := hG.2.2.2.1 j k2 q'' q' hj hk2 cj hq'' t1
                    have x2 := hG.2.1 j q'' hj hq''
                    exact F2 _ _ (by omega) (by omega) (by omega)
              · have x1 := hG.2.2.2.2.2 k2 j q' q'' hk2 hj t1 hq'
                have x2 := hG.2.2.1 j q'' hj hq'
                exact ⟨by rw [F1], funext fun z => F2 a z (by omega) (by omega) (by omega)⟩
            · refine ⟨-7, d, d, ?_, ?_, hS, pt_SF_r G d⟩
              · rw [C1, s1, t1]
                dsimp only
                rw [g5, z5, if_pos cw, pt_reaches g3 g1, pb_s]
                by_cases c1 : 0 ≤ v2.toInt ∧ 0 ≤ v5.toInt ∧ v2.toInt + v5.toInt ≤ n
                · rw [if_pos c1, if_neg pn_10, pt_reaches z3 z1, pb_s, if_neg (show ¬ (0 ≤ v4.toInt ∧ 0 ≤ v5.toInt ∧ v4.toInt + v5.toInt ≤ (n' : Int)) by omega), if_pos rfl]
                · rw [if_neg c1, if_pos rfl]
              · have l1 : ((nI n).toInt64 < v2.toInt64 + v5.toInt64) = ((n : Int) < v2.toInt + v5.toInt) := propext (Int64.lt_iff_toInt_lt.trans (by rw [pt_add64, Int32.toInt_toInt64, nI_toInt (by omega)]))
                have l2 : (v4.toInt64 + v5.toInt64 ≤ (nI n').toInt64) = (v4.toInt + v5.toInt ≤ (n' : Int)) := propext (Int64.le_iff_toInt_le.trans (by rw [pt_add64, Int32.toInt_toInt64, nI_toInt (by omega)]))
                rw [R1, g4, z4, g6, z6, if_neg hm1, if_neg hm1', if_pos cw]
                simp only [pt_z32, l1, l2]
                by_cases c1 : v2.toInt < 0
                · rw [if_pos c1]
                · rw [if_neg c1]
                  by_cases c2 : v4.toInt < 0
                  · rw [if_pos c2]
                  · rw [if_neg c2]
                    by_cases c3 : v5.toInt < 0
                    · rw [if_pos c3]
                    · rw [if_neg c3]
                      by_cases c4 : (n : Int) < v2.toInt + v5.toInt
                      · rw [if_pos c4]
                      · rw [if_neg c4, if_neg (by omega)]
          · refine ⟨-8, d, d, ?_, ?_, hS, pt_SF_r G d⟩
            · rw [C1, s1, t1]
              dsimp only
              rw [g5, z5, if_neg cw]
            · rw [R1, g4, z4, g6, z6, if_neg hm1, if_neg hm1', if_neg cw]
    · refine ⟨-2, d, d, ?_, ?_, hS, pt_SF_r G d⟩
      · rw [f_X11_paste, pt_slot1, pb_s, pj_0, if_pos e1, if_neg pn_10, pt_slot1, pb_s, if_neg e3, if_pos rfl]
      · rw [f_X12_paste, pt_slot2, pb_s, pj_0, if_pos e1, if_neg pn_10, pt_slot2, pb_s, if_neg e3, if_pos rfl]
  · refine ⟨-2, d, d, ?_, ?_, hS, pt_SF_r G d⟩
    · rw [f_X11_paste, pt_slot1, pb_s, pj_0, if_neg e1, if_pos rfl]
    · rw [f_X12_paste, pt_slot2, pb_s, pj_0, if_neg e1, if_pos rfl]
end
