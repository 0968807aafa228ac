/-! Chance: the call -/
theorem pc_m_in (c : Nat → Bool) {b : Nat} (h : c b = true) : ∀ n, b < n → pc_m c b < pc_m c n
  | 0, z => absurd z (Nat.not_lt_zero b)
  | n + 1, z => by
    rw [pc_m_s]
    by_cases e : b = n
    · rw [← e, if_pos h]; omega
    · have := pc_m_in c h n (by omega)
      omega
section
variable {d e : ya_D} {M M' : pm_M}
theorem pz_chance (hI : pm_I d M) (hY : pz_Y d M) (v w u : Int32) : pz_op d M (f_X11_chance v w u) (f_X12_chance v w u) := by
  have hb := pm_b hI.2.2
  by_cases e1 : pn_ok v (M 0 5)
  · by_cases e2 : pn_ok w (M 0 1)
    · by_cases e3 : pn_ok u 2
      · obtain ⟨b, hbb, rfl⟩ := pn_ok_e e1
        obtain ⟨t, ht, rfl⟩ := pn_ok_e e2
        obtain ⟨j, hj, rfl⟩ := pn_ok_e e3
        have hx := (pm_bu hI.2.2 hbb).1
        have hp := (pm_pr hI.2.2 hx ht).1
        have r36 : ∀ z, pm_C z 24 M → ya_rI z 36 7 (nI b) = some (nI (M 9 b)) := fun z hz => by
          rw [pn_rI (by omega) (by omega)]; exact congrArg some (hz.2.2.2.2.2.2.2.2.2.2 b hbb).1
        have r27 : ya_rI d 27 100 (nI (20 * M 9 b + t)) = some (nI (M 2 (20 * M 9 b + t))) := by
          rw [pn_rI (by omega) (by omega)]; exact congrArg some (hI.1.2.2.2.2.2.2.2.1 _ t hx ht).1
        have hof : ∀ z, pm_J z M → f_X12_of (nI b) 0 z = some (nI (M 9 b)) := fun z hz => by
          rw [show (0 : Int32) = nI 0 from rfl, pm_of (by omega)]
          exact congrArg some ((pk_r hz.1).2.2.2.2.2.2.2.2.2.2 b hbb).1
        by_cases q : pm_co M (M 9 b) t (M 2 (20 * M 9 b + t)) b
        · obtain ⟨d1, d2, l, g, p, A1, A2, A3, A4, A5, A6, A7, A8, A9, A10, A11, A12⟩ := pz_year hI hY
          obtain ⟨c, hc⟩ : ∃ c : Nat → Bool, c = fun i => decide (pm_co M (M 9 b) t (M 2 (20 * M 9 b + t)) i) := ⟨_, rfl⟩
          have hcb : c b = true := by rw [hc]; exact decide_eq_true q
          obtain ⟨A, hA⟩ : ∃ A : Nat → Bool, A = fun i => decide (pm_co M (M 9 b) t (M 2 (20 * M 9 b + t)) i) && !decide (i = b) := ⟨_, rfl⟩
          have hAc : ∀ i, A i = (c i && !decide (i = b)) := fun i => by rw [hA, hc]
          have hm1 := pc_m_le c (M 0 5)
          have hm0 : 1 ≤ pc_m c (M 0 5) := by
            have h := pc_wo hAc hcb (fun _ => 1) (M 0 5)
            rw [if_pos hbb] at h
            have h3 : pn_sum (fun i => if c i = true then 1 else 0) (M 0 5) = pc_m c (M 0 5) := rfl
            omega
          have hcnt : f_X1_countComing 35 (nI (M 9 b)) (nI t) (nI (M 2 (20 * M 9 b + t))) d1 = some (nI (pc_m c (M 0 5))) := by
            rw [pm_countComing A4 (by omega) (by omega) (by omega)]
            refine congrArg (fun z => some (nI z)) (pn_sum_c _ (fun i hi => ?_))
            rw [hc]
            by_cases z : pm_co M (M 9 b) t (M 2 (20 * M 9 b + t)) i
            · rw [if_pos z, if_pos (decide_eq_true z)]
            · rw [if_neg z, if_neg (by dsimp only; rw [decide_eq_false z]; decide)]
          obtain ⟨S, hS⟩ : ∃ S, S = pc_T A (M 10) (pc_p (d1.1 43 (20 * M 9 b + t)) (M 10 b) (pc_m c (M 0 5) - 1)) (M 0 5) 0 0 := ⟨_, rfl⟩
          have hord : f_X11_ordersWithAll (nI b) (nI t) (nI (M 2 (20 * M 9 b + t))) (d1.1 43 (20 * M 9 b + t)) d1 = some (nI S) := by
            rw [f_X11_ordersWithAll, r36 d1 A4.1, pb_s, hcnt, pb_s, show (1 : Int32) = nI 1 from rfl, pn_sub hm0, show (0 : Int32) = nI 0 from rfl, pc_orders1 A4.1 A4.2.2 _ hbb (by omega) (by omega) (by omega) (by omega) 0, hS, hA]
          have hO : d1.1 43 (20 * M 9 b + t) = d2.1 91 (20 * M 9 b + t) := (A3.2.2.2.2.2.2.1 _ t hx ht ht).1
          have hSb : S ≤ 2 ^ M 0 5 * 720 := by rw [hS]; exact pc_T_le (fun k s => pc_p_le (by omega) k s) _ _ _
          have h128 := pc_2n (M 0 5) (by omega)
          have hSb2 : S ≤ 128 * 720 := Nat.le_trans hSb (Nat.mul_le_mul_right _ h128)
          have hfl := pc_fl (pc_m c (M 0 5)) (by omega)
          obtain ⟨g0, G1, G2, G3, G4⟩ := pc_div (a := S) (b := pc_f (pc_m c (M 0 5))) (by omega) (by omega)
          have hf0 : ∀ k, 0 < pc_f k := fun k => by
            induction k with
            | zero => exact Nat.one_pos
            | succ k ih => exact Nat.mul_pos (Nat.succ_pos k) ih
          have hg0 : 0 < g0 := G4 (Or.inr (hf0 _))
          obtain ⟨e', B1, B2, B3, B4⟩ := pc_standIn A5.2 hx ht hc
          have hR' : pm_R e' 84 0 M := pm_R_c A5.2.1 (fun k => by rw [B1 84 (by decide)])
          have hask := pk_asked hR' hI.2.2 hx ht
          have ho4 : ∀ n, n < M 0 5 → c n = true → (e'.1 101 (pc_m c n)).toNatClampNeg = n := fun n h1 h2 => by rw [B4 n h1 h2, nI_clamp (by omega)]
          have hgl : ¬ nI g0 ≤ 0 := by rw [show (0 : Int32) = nI 0 from rfl, pn_le G3 (by omega)]; omega
          have hgz : ¬ nI g0 = 0 := by rw [show (0 : Int32) = nI 0 from rfl, nI_eq G3 (by omega)]; omega
          have f1 : f_X11_chance (nI b) (nI t) (nI j) d = some ((if nI j = 0 then nI S else nI (pc_f (pc_m c (M 0 5)))) / nI g0, d1) := by
            rw [f_X11_chance, pm_isBuyer1 hI, pb_s, pj_0, if_pos e1, if_neg pn_10, pm_isDay1 hI, pb_s, if_pos e2, if_neg pn_10, pn_wN _ 2 1 (by decide), pb_s, if_pos e3, if_neg pn_10, r36 d hI.1, pb_s, pm_cell1, pb_s, r27, pb_s, pk_comes hI.1 hI.2.2 hbb (by omega) (by omega) (by omega), pb_s, pj_3, if_pos q, if_neg pn_10, A1, pb_s, pn_rI (by omega) (by omega), pb_s, hord, pb_s, hcnt, pb_s, pc_fr _ (by omega), pb_s]
            dsimp only
            rw [G1, pb_s, pj_1]
            by_cases z : nI j = 0
            · rw [if_pos z, if_pos z]; dsimp only; rw [if_neg hgl, ya_dv, if_neg hgz, pb_s]
            · rw [if_neg z, if_neg z]; dsimp only; rw [if_neg hgl, ya_dv, if_neg hgz, pb_s]
          have f2 : f_X12_chance (nI b) (nI t) (nI j) d1 = some ((if nI j = 0 then nI S else nI (pc_f (pc_m c (M 0 5)))) / nI g0, e') := by
            rw [f_X12_chance, pm_isBuyer2 A4.2, pb_s, pj_0, if_pos e1, if_neg pn_10, pm_isDay2 A4.2, pb_s, if_pos e2, if_neg pn_10, pn_inN _ 2 1 (by decide), pb_s, if_pos e3, if_neg pn_10, hof d1 A4.2, pb_s, pk_wants A4.2.1 A4.2.2 hbb hx ht, pb_s, if_pos q, if_neg pn_10, A2, pb_s, pm_cell2, pb_s, pn_rI (by omega) (by omega), pb_s, ← hO, B3, ya_b2s, hask, pb_s, pj_1]
            dsimp only
            have hfac := pc_fac (k := pc_m c (M 0 5)) (by omega)
            have hwd : pn_sum (fun i => if c i = true then M 10 i else 0) (M 0 5) = pm_wd M (M 9 b) t (M 2 (20 * M 9 b + t)) (M 0 5) := pn_sum_c _ (fun i hi => by
              rw [hc]
              by_cases z : pm_co M (M 9 b) t (M 2 (20 * M 9 b + t)) i
              · rw [if_pos z, if_pos (decide_eq_true z)]
              · rw [if_neg z, if_neg (by dsimp only; rw [decide_eq_false z]; decide)])
            have hwl := pm_wd_le (x := M 9 b) (t := t) (y := M 2 (20 * M 9 b + t)) hI.2.2 (Nat.le_refl (M 0 5))
            have hval : ∀ K : Int32 → Option (Int32 × ya_D), (if d1.1 43 (20 * M 9 b + t) < nI (pm_wd M (M 9 b) t (M 2 (20 * M 9 b + t)) (M 0 5)) then (f_X12_orders (nI b) (nI (pc_m c (M 0 5))) (d1.1 43 (20 * M 9 b + t)) e').bind K else (f_X12_factorial (nI (pc_m c (M 0 5)))).bind K) = K (nI S) := fun K => by
              by_cases z : d1.1 43 (20 * M 9 b + t) < nI (pm_wd M (M 9 b) t (M 2 (20 * M 9 b + t)) (M 0 5))
              · rw [if_pos z, pc_orders2 (M := M) ⟨hR', hI.2.2⟩ (o := fun j => (e'.1 101 j).toNatClampNeg) (d1.1 43 (20 * M 9 b + t)) hbb hm1 (fun j hj => by
                  obtain ⟨q, q1, q2, q3⟩ := pc_m_sur c _ j hj
                  subst q3
                  rw [ho4 q q1 q2]
                  exact ⟨q1, B4 q q1 q2⟩) ⟨pc_m c b, pc_m_in c hcb _ hbb, ho4 b hbb hcb⟩, pb_s, hS, pc_same (A := A) (c := c) (b := b) (nB := M 0 5) hAc (o := fun j => (e'.1 101 j).toNatClampNeg) (w := M 10) ho4]
              · rw [if_neg z, hfac, pb_s, hS, pc_all (A := A) (c := c) hAc hcb hbb (by omega) hwd (fun s hs q => z (by
                  have q1 := Int32.lt_iff_toInt_lt.1 q
                  rw [nI_toInt (by omega)] at q1
                  apply Int32.lt_iff_toInt_lt.2
                  rw [nI_toInt (by omega)]
                  omega))]
            refine (hval _).trans ?_
            rw [hfac, pb_s, G2, pb_s, pj_1]
            by_cases z : nI j = 0
            · rw [if_pos z, if_pos z]; dsimp only; rw [ya_dv, if_neg hgz, pb_s]
            · rw [if_neg z, if_neg z, pb_s]; dsimp only; rw [ya_dv, if_neg hgz, pb_s]
          exact ⟨_, d1, e', M, f1, f2, ⟨pm_C_c A5.1 (fun a k h1 h2 => by rw [B1 a (by omega)]), hR', A5.2.2⟩, pz_Y_c A7 (fun a h1 h2 => B1 a (by omega)) (by rw [B2]) (by rw [B1 0 (by omega)]), pz_F_t A9 ⟨fun a k hs => by rw [B1 a (by unfold pz_s at hs; omega)], fun a k _ _ _ _ => by rw [B2]⟩⟩
        · have cd : f_X11_commonDivisor 0 1 = some 1 := by decide +kernel
          have f1 : f_X11_chance (nI b) (nI t) (nI j) d = some (nI j, d) := by
            rw [f_X11_chance, pm_isBuyer1 hI, pb_s, pj_0, if_pos e1, if_neg pn_10, pm_isDay1 hI, pb_s, if_pos e2, if_neg pn_10, pn_wN _ 2 1 (by decide), pb_s, if_pos e3, if_neg pn_10, r36 d hI.1, pb_s, pm_cell1, pb_s, r27, pb_s, pk_comes hI.1 hI.2.2 hbb (by omega) (by omega) (by omega), pb_s, pj_3, if_neg q, if_pos rfl]
            dsimp only
            rw [cd, pb_s, pj_1]
            obtain rfl | rfl : j = 0 ∨ j = 1 := by omega
            · rfl
            · rfl
          have f2 : f_X12_chance (nI b) (nI t) (nI j) d = some (nI j, d) := by
            rw [f_X12_chance, pm_isBuyer2 hI.2, pb_s, pj_0, if_pos e1, if_neg pn_10, pm_isDay2 hI.2, pb_s, if_pos e2, if_neg pn_10, pn_inN _ 2 1 (by decide), pb_s, if_pos e3, if_neg pn_10, hof d hI.2, pb_s, pk_wants hI.2.1 hI.2.2 hbb hx ht, pb_s, if_neg q, if_pos rfl]
          exact pz_no hI hY f1 f2
      · refine pz_no hI hY (r := -2) ?_ ?_
        · rw [f_X11_chance, pm_isBuyer1 hI, pb_s, pj_0, if_pos e1, if_neg pn_10, pm_isDay1 hI, pb_s, if_pos e2, if_neg pn_10, pn_wN _ 2 1 (by decide), pb_s, if_neg e3, if_pos rfl]
        · rw [f_X12_chance, pm_isBuyer2 hI.2, pb_s, pj_0, if_pos e1, if_neg pn_10, pm_isDay2 hI.2, pb_s, if_pos e2, if_neg pn_10, pn_inN _ 2 1 (by decide), pb_s, if_neg e3, if_pos rfl]
    · refine pz_no hI hY (r := -2) ?_ ?_
      · rw [f_X11_chance, pm_isBuyer1 hI, pb_s, pj_0, if_pos e1, if_neg pn_10, pm_isDay1 hI, pb_s, if_neg e2, if_pos rfl]
      · rw [f_X12_chance, pm_isBuyer2 hI.2, pb_s, pj_0, if_pos e1, if_neg pn_10, pm_isDay2 hI.2, pb_s, if_neg e2, if_pos rfl]
  · refine pz_no hI hY (r := -2) ?_ ?_
    · rw [f_X11_chance, pm_isBuyer1 hI, pb_s, pj_0, if_neg e1, if_pos rfl]
    · rw [f_X12_chance, pm_isBuyer2 hI.2, pb_s, pj_0, if_neg e1, if_pos rfl]
end
