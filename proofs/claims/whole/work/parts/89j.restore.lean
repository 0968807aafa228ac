/-! Images: image, restore (the calls) -/
/-- the k-th image of class and reference -/
def pt_G (G : ya_G) (d : ya_D) (k : Nat) : Prop := (G.2.2 81 k = none ∧ d.1 86 k = 0) ∨ ∃ q Mi, G.2.2 81 k = some q ∧ 108 ≤ q ∧ q + 18 ≤ G.1 ∧ ¬ d.1 86 k = 0 ∧ pm_W Mi ∧ pm_C d q Mi ∧ pm_R d 85 (468 * k) Mi
/-- what image leaves as it was -/
def pt_IF (G : ya_G) (d : ya_D) (G' : ya_G) (d' : ya_D) : Prop := (∀ k, G'.2.2 82 k = G.2.2 82 k) ∧ G.1 ≤ G'.1 ∧ (∀ a z, a < 108 → a ≠ 85 → a ≠ 86 → d'.1 a z = d.1 a z) ∧ (∀ a z, a < 108 → d'.2 a z = d.2 a z) ∧ ∀ k q, k < 4 → G.2.2 82 k = some q → ∀ a, q ≤ a → a < q + 2 → d'.1 a = d.1 a ∧ d'.2 a = d.2 a
section
variable {d d' : ya_D} {M : pm_M} {G G' : ya_G}
theorem pt_C_c {q : Nat} (h : pm_C d q M) (e : ∀ a, q ≤ a → a < q + 18 → d'.1 a = d.1 a) : pm_C d' q M := by
  unfold pm_C
  rw [e q (by omega) (by omega), e (q + 1) (by omega) (by omega), e (q + 2) (by omega) (by omega), e (q + 3) (by omega) (by omega), e (q + 4) (by omega) (by omega), e (q + 5) (by omega) (by omega), e (q + 6) (by omega) (by omega), e (q + 7) (by omega) (by omega), e (q + 8) (by omega) (by omega), e (q + 9) (by omega) (by omega), e (q + 10) (by omega) (by omega), e (q + 11) (by omega) (by omega), e (q + 12) (by omega) (by omega), e (q + 13) (by omega) (by omega), e (q + 14) (by omega) (by omega), e (q + 15) (by omega) (by omega), e (q + 16) (by omega) (by omega), e (q + 17) (by omega) (by omega)]
  exact h
theorem pt_G_c {j : Nat} (h : pt_G G d j) (h1 : G'.2.2 81 j = G.2.2 81 j) (h2 : G.1 ≤ G'.1) (h3 : d'.1 86 j = d.1 86 j) (h4 : ∀ i, i < 468 → d'.1 85 (468 * j + i) = d.1 85 (468 * j + i)) (h5 : ∀ q, G.2.2 81 j = some q → ∀ a, q ≤ a → a < q + 18 → d'.1 a = d.1 a) : pt_G G' d' j := by
  rcases h with ⟨s1, s2⟩ | ⟨q, Mi, s1, s2, s3, s4, s5, s6, s7⟩
  · exact Or.inl ⟨h1.trans s1, h3.trans s2⟩
  · exact Or.inr ⟨q, Mi, h1.trans s1, s2, by omega, by rw [h3]; exact s4, s5, pt_C_c s6 (h5 q s1), pt_R_cp s5 h4 s7⟩
theorem pt_vz : vp_nar .boolean 1 = 1 := by decide
/-- the reference keeps its market -/
theorem pt_image2 {k : Nat} (hk : k < 3) (hJ : pm_J d M) : ∃ d2, f_X12_image (nI k) d = some (0, d2) ∧ d2.2 = d.2 ∧ ¬ d2.1 86 k = 0 ∧ pm_R d2 85 (468 * k) M ∧ ∀ a z, (a ≠ 85 ∨ z < 468 * k ∨ 468 * k + 468 ≤ z) → (a ≠ 86 ∨ z ≠ k) → d2.1 a z = d.1 a z := by
  have key := pq_lp (G := fun fu i (s : ya_D) => f_X12_image_L17 (nI k) fu (nI i) s) (E := fun s : ya_D => some ((0 : Int32), ya_sI s 86 k 1)) (n := 468)
    (I := fun i s => s.2 = d.2 ∧ (∀ a z, (a ≠ 85 ∨ z < 468 * k ∨ 468 * k + i ≤ z) → s.1 a z = d.1 a z) ∧ ∀ j, j < i → s.1 85 (468 * k + j) = d.1 84 j)
    (Q := fun s => s.2 = d.2 ∧ (∀ a z, (a ≠ 85 ∨ z < 468 * k ∨ 468 * k + 468 ≤ z) → s.1 a z = d.1 a z) ∧ ∀ j, j < 468 → s.1 85 (468 * k + j) = d.1 84 j)
    (fun fu s hs => ⟨s, hs, by rw [f_X12_image_L17, if_pos (by decide), pt_vz, pn_wI hk (by omega), pb_s]⟩)
    (fun fu i s hi hs => Or.inr ⟨ya_sI s 85 (468 * k + i) (d.1 84 i), ⟨hs.1, fun a z c => by rw [pn_o (by omega), hs.2.1 a z (by omega)], fun j hj => by
        by_cases c : j = i
        · rw [c]; exact pn_e ⟨rfl, rfl⟩
        · rw [pn_o (by omega), hs.2.2 j (by omega)]⟩, by
        rw [f_X12_image_L17, if_neg (by rw [show (468 : Int32) = nI 468 from rfl, pn_le (by omega) (by omega)]; omega), pn_rI hi (by omega), pb_s, hs.2.1 84 i (by omega), show (468 : Int32) = nI 468 from rfl, pn_mul, nI_add, pn_wI (by omega) (by omega), pb_s, nI_1]⟩)
  obtain ⟨s, ⟨k1, k2, k3⟩, k4⟩ := key ya_F 0 d (by omega) (by rw [ya_F]; omega) ⟨rfl, fun _ _ _ => rfl, fun j hj => absurd hj (Nat.not_lt_zero j)⟩
  refine ⟨ya_sI s 86 k 1, ?_, k1, ?_, ?_, fun a z c1 c2 => ?_⟩
  · rw [f_X12_image, pn_inN _ 3 2 (by decide), pb_s, if_pos (pn_ok_nI hk (by omega)), if_neg pn_10]
    exact k4
  · rw [pn_e ⟨rfl, rfl⟩]; decide
  · exact pt_R_cp hJ.2 (fun i hi => by rw [pn_o (by omega), k3 i hi, Nat.zero_add]) hJ.1
  · rw [pn_o c2, k2 a z c1]
theorem pg_image {k : Nat} (hG : pg_G G) (hk : k < 3) (hq : G.2.2 81 k = none) : pg_G (g_imB G.1 k G) ∧ (∀ j, j ≠ k → (g_imB G.1 k G).2.2 81 j = G.2.2 81 j) ∧ ∀ j, (g_imB G.1 k G).2.2 82 j = G.2.2 82 j := by
  obtain ⟨g0, g1, g2, g3, g4, g5⟩ := hG
  have r1 : ∀ j, j ≠ k → (g_imB G.1 k G).2.2 81 j = G.2.2 81 j := fun j hj => g_imB_r (by omega) (Or.inr hj)
  have r2 : ∀ j, (g_imB G.1 k G).2.2 82 j = G.2.2 82 j := fun j => g_imB_r (by omega) (Or.inl (by omega))
  have r3 : (g_imB G.1 k G).1 = G.1 + 18 := (g_imB_le rfl).2
  have r4 : (g_imB G.1 k G).2.2 81 k = some G.1 := g_imB_new
  have r5 : ∀ j q, j < 3 → (g_imB G.1 k G).2.2 81 j = some q → (j = k ∧ q = G.1) ∨ (j ≠ k ∧ G.2.2 81 j = some q) := fun j q hj h => by
    by_cases c : j = k
    · subst c
      rw [r4] at h
      exact Or.inl ⟨rfl, (Option.some.inj h).symm⟩
    · exact Or.inr ⟨c, by rw [← r1 j c]; exact h⟩
  refine ⟨⟨by omega, fun j q hj h => ?_, fun j q hj h => ?_, fun j j' q q' hj hj' hne h h' => ?_, fun j j' q q' hj hj' hne h h' => ?_, fun j j' q q' hj hj' h h' => ?_⟩, r1, r2⟩
  · rw [r2] at h; have := g1 j q hj h; omega
  · rcases r5 j q hj h with ⟨_, c⟩ | ⟨_, c⟩
    · omega
    · have := g2 j q hj c; omega
  · rw [r2] at h h'; exact g3 j j' q q' hj hj' hne h h'
  · rcases r5 j q hj h with ⟨c1, c⟩ | ⟨c1, c⟩ <;> rcases r5 j' q' hj' h' with ⟨z1, z⟩ | ⟨z1, z⟩
    · omega
    · have := g2 j' q' hj' z; omega
    · have := g2 j q hj c; omega
    · exact g4 j j' q q' hj hj' hne c z
  · rw [r2] at h
    have := g1 j q hj h
    rcases r5 j' q' hj' h' with ⟨c1, c⟩ | ⟨c1, c⟩
    · omega
    · exact g5 j j' q q' hj hj' h c
theorem pt_img (hI : pm_I d M) (hG : pg_G G) (hIm : ∀ k, k < 3 → pt_G G d k) (v1 : Int32) : ∃ r G' d1 d2, f_img G v1 d = some (r, G', d1) ∧ f_X12_image v1 d1 = some (r, d2) ∧ pg_G G' ∧ (∀ k, k < 3 → pt_G G' d2 k) ∧ pt_IF G d G' d2 := by
  by_cases e : pn_ok v1 3
  · obtain ⟨k, hk, rfl⟩ := pn_ok_e e
    have hc : (nI k).toNatClampNeg = k := nI_clamp (by omega)
    have hin : ¬ (nI k < 0 ∨ 3 ≤ (nI k).toNatClampNeg) := by
      rw [hc, pt_z32, nI_toInt (by omega)]
      omega
    have hin' : ¬ (nI k < 0 ∨ 3 ≤ (nI k).toNatClampNeg) := hin
    cases hq : G.2.2 81 k with
    | some q =>
      obtain ⟨b1, b2⟩ := hG.2.2.1 k q hk hq
      obtain ⟨d1, A1, A2⟩ := pt_take (a := 24) (b := q) (Or.inl (by omega)) d
      have F1 : ∀ c z, (c < q ∨ q + 18 ≤ c) → d1.1 c z = d.1 c z := A2.2.1
      have hJ1 : pm_J d1 M := ⟨pm_R_c hI.2.1 (fun z => F1 _ z (by omega)), hI.2.2⟩
      obtain ⟨d2, B1, B2, B3, B4, B5⟩ := pt_image2 hk hJ1
      have hlk : ∀ (A : Option (Int32 × ya_D)) (B : Nat → Option (Int32 × ya_D)), ya_lk G 81 3 (nI k) A B = B q := fun A B => by
        unfold ya_lk
        rw [if_neg hin', hc, hq]
      refine ⟨0, G, d1, d2, ?_, B1, hG, fun j hj => ?_, fun _ => rfl, Nat.le_refl _, fun a z z1 z2 z3 => ?_, fun a z z1 => ?_, fun j q' hj hq' a a1 a2 => ?_⟩
      · rw [f_img, if_neg hin, hc, hq]
        dsimp only
        rw [f_X11_image, pn_wN _ 3 2 (by decide), pb_s, if_pos e, if_neg pn_10, hlk, hlk, A1, pb_s, pb_s]
      · by_cases c : j = k
        · subst c
          exact Or.inr ⟨q, M, hq, b1, b2, B3, hI.2.2, pt_C_c (pt_C_cp hI.2.2 A2 hI.1) (fun a a1 a2 => funext fun z => B5 a z (by omega) (by omega)), B4⟩
        · refine pt_G_c (hIm j hj) rfl (Nat.le_refl _) ?_ (fun i hi => ?_) (fun q' hq' a a1 a2 => funext fun z => ?_)
          · rw [B5 _ _ (by omega) (by omega), F1 _ _ (by omega)]
          · rw [B5 _ _ (by omega) (by omega), F1 _ _ (by omega)]
          · have x1 := hG.2.2.2.2.1 j k q' q hj hk c hq' hq
            have x2 := hG.2.2.1 j q' hj hq'
            rw [B5 _ _ (by omega) (by omega), F1 _ _ (by omega)]
      · rw [B5 _ _ (by omega) (by omega), F1 _ _ (by omega)]
      · rw [B2, A2.1]
      · have x1 := hG.2.2.2.2.2 j k q' q hj hk hq' hq
        have x2 := hG.2.1 j q' hj hq'
        exact ⟨funext fun z => by rw [B5 _ _ (by omega) (by omega), F1 _ _ (by omega)], by rw [B2, A2.1]⟩
    | none =>
      have h0 := hG.1
      obtain ⟨p1, p2, p3⟩ := pg_image hG hk hq
      obtain ⟨e0, he0⟩ : ∃ e0, e0 = iD_X2_init G.1 (G.1 + 1) (ya_nE G.1 d) := ⟨_, rfl⟩
      have D1 : ∀ a, a < G.1 → e0.1 a = d.1 a ∧ e0.2 a = d.2 a := fun a h => by
        have nE : ∀ (q : Nat) (x : ya_D), a ≠ q → (ya_nE q x).1 a = x.1 a ∧ (ya_nE q x).2 a = x.2 a := fun q x hx => ⟨funext fun z => if_neg hx, funext fun z => if_neg hx⟩
        rw [he0]
        unfold iD_X2_init iD_X1_init iD_X6_init iD_X8_init
        constructor
        · repeat rw [(nE _ _ (by omega)).1]
        · repeat rw [(nE _ _ (by omega)).2]
      obtain ⟨d1, A1, A2⟩ := pt_take (a := 24) (b := G.1) (Or.inl (by omega)) e0
      have F1 : ∀ c z, c < G.1 → d1.1 c z = d.1 c z := fun c z hc => by rw [A2.2.1 c z (Or.inl hc), (D1 c hc).1]
      have F2 : ∀ c z, c < G.1 → d1.2 c z = d.2 c z := fun c z hc => by rw [A2.1, (D1 c hc).2]
      have hC0 : pm_C e0 24 M := pt_C_c hI.1 (fun a a1 a2 => (D1 a (by omega)).1)
      have hJ1 : pm_J d1 M := ⟨pm_R_c hI.2.1 (fun z => F1 _ z (by omega)), hI.2.2⟩
      obtain ⟨d2, B1, B2, B3, B4, B5⟩ := pt_image2 hk hJ1
      have hG1 : (g_imB G.1 k G).1 = G.1 + 18 := (g_imB_le rfl).2
      refine ⟨0, g_imB G.1 k G, d1, d2, ?_, B1, p1, fun j hj => ?_, p3, by omega, fun a z z1 z2 z3 => ?_, fun a z z1 => ?_, fun j q' hj hq' a a1 a2 => ?_⟩
      · rw [f_img, if_neg hin, hc, hq]
        dsimp only
        rw [f_X11_imageB, pn_wN _ 3 2 (by decide), pb_s, if_pos e, if_neg pn_10, ← he0, A1, pb_s, pb_s]
      · by_cases c : j = k
        · subst c
          exact Or.inr ⟨G.1, M, g_imB_new, h0, by omega, B3, hI.2.2, pt_C_c (pt_C_cp hI.2.2 A2 hC0) (fun a a1 a2 => funext fun z => B5 a z (by omega) (by omega)), B4⟩
        · refine pt_G_c (hIm j hj) (p2 j c) (by omega) ?_ (fun i hi => ?_) (fun q' hq' a a1 a2 => funext fun z => ?_)
          · rw [B5 _ _ (by omega) (by omega), F1 _ _ (by omega)]
          · rw [B5 _ _ (by omega) (by omega), F1 _ _ (by omega)]
          · have x2 := hG.2.2.1 j q' hj hq'
            rw [B5 _ _ (by omega) (by omega), F1 _ _ (by omega)]
      · rw [B5 _ _ (by omega) (by omega), F1 _ _ (by omega)]
      · rw [B2, F2 _ _ (by omega)]
      · have x2 := hG.2.1 j q' hj hq'
        exact ⟨funext fun z => by rw [B5 _ _ (by omega) (by omega), F1 _ _ (by omega)], funext fun z => by rw [B2, F2 _ _ (by omega)]⟩
  · have hin : v1 < 0 ∨ 3 ≤ v1.toNatClampNeg := by
      have y4 : v1.toNatClampNeg = v1.toInt.toNat := rfl
      rw [pt_z32 v1, y4]
      unfold pn_ok at e
      omega
    refine ⟨-2, G, d, d, ?_, ?_, hG, hIm, fun _ => rfl, Nat.le_refl _, fun _ _ _ _ _ => rfl, fun _ _ _ => rfl, fun _ _ _ _ _ _ _ => ⟨rfl, rfl⟩⟩
    · rw [f_img, if_pos hin, f_X11_image, pn_wN _ 3 2 (by decide), pb_s, if_neg e, if_pos rfl, pb_s]
    · rw [f_X12_image, pn_inN _ 3 2 (by decide), pb_s, if_neg e, if_pos rfl]
theorem pt_restore (hI : pm_I d M) (hY : pz_Y d M) (hG : pg_G G) (hIm : ∀ k, k < 3 → pt_G G d k) (v1 : Int32) : pz_op d M (f_X11_restore G v1) (f_X12_restore v1) := by
  by_cases e : pn_ok v1 3
  · obtain ⟨k, hk, rfl⟩ := pn_ok_e e
    have hc : (nI k).toNatClampNeg = k := nI_clamp (by omega)
    have hin' : ¬ (nI k < 0 ∨ 3 ≤ (nI k).toNatClampNeg) := by
      rw [hc, pt_z32, nI_toInt (by omega)]
      omega
    rcases hIm k hk with ⟨s1, s2⟩ | ⟨q, Mi, s1, s2, s3, s4, s5, s6, s7⟩
    · refine pz_no hI hY (r := -6) ?_ ?_
      · rw [f_X11_restore, pn_wN _ 3 2 (by decide), pb_s, if_pos e, if_neg pn_10, ya_lk, if_neg hin', hc, s1]
      · rw [f_X12_restore, pn_inN _ 3 2 (by decide), pb_s, if_pos e, if_neg pn_10, pn_rI hk (by omega), pb_s, if_pos s2]
    · have hlk : ∀ (A : Option (Int32 × ya_D)) (B : Nat → Option (Int32 × ya_D)), ya_lk G 81 3 (nI k) A B = B q := fun A B => by
        unfold ya_lk
        rw [if_neg hin', hc, s1]
      obtain ⟨d0, A1, A2⟩ := pt_take (a := q) (b := 24) (Or.inr (by omega)) d
      obtain ⟨d1, e1⟩ : ∃ d1, d1 = ya_sI d0 0 9 0 := ⟨_, rfl⟩
      have F1 : ∀ c z, (c < 24 ∨ 24 + 18 ≤ c) → (c ≠ 0 ∨ z ≠ 9) → d1.1 c z = d.1 c z := fun c z c1 c2 => by rw [e1, pn_o c2, A2.2.1 c z c1]
      have key := pq_lp (G := fun fu i (s : ya_D) => f_X12_restore_L29 (nI k) fu (nI i) s) (E := fun s : ya_D => some ((0 : Int32), s)) (n := 468)
        (I := fun i s => s.2 = d1.2 ∧ (∀ a z, (a ≠ 84 ∨ i ≤ z) → s.1 a z = d1.1 a z) ∧ ∀ j, j < i → s.1 84 j = d1.1 85 (468 * k + j))
        (Q := fun s => s.2 = d1.2 ∧ (∀ a z, (a ≠ 84 ∨ 468 ≤ z) → s.1 a z = d1.1 a z) ∧ ∀ j, j < 468 → s.1 84 j = d1.1 85 (468 * k + j))
        (fun fu s hs => ⟨s, hs, by rw [f_X12_restore_L29, if_pos (by decide)]⟩)
        (fun fu i s hi hs => Or.inr ⟨ya_sI s 84 i (d1.1 85 (468 * k + i)), ⟨hs.1, fun a z c => by rw [pn_o (by omega), hs.2.1 a z (by omega)], fun j hj => by
            by_cases c : j = i
            · rw [c]; exact pn_e ⟨rfl, rfl⟩
            · rw [pn_o (by omega), hs.2.2 j (by omega)]⟩, by
            rw [f_X12_restore_L29, if_neg (by rw [show (468 : Int32) = nI 468 from rfl, pn_le (by omega) (by omega)]; omega), show (468 : Int32) = nI 468 from rfl, pn_mul, nI_add, pn_rI (by omega) (by omega), pb_s, hs.2.1 85 _ (by omega), pn_wI hi (by omega), pb_s, nI_1]⟩)
      obtain ⟨d2, ⟨k1, k2, k3⟩, k4⟩ := key ya_F 0 d1 (by omega) (by rw [ya_F]; omega) ⟨rfl, fun _ _ _ => rfl, fun j hj => absurd hj (Nat.not_lt_zero j)⟩
      have hC2 : pm_C d2 24 Mi := pt_C_c (pt_C_cp s5 A2 s6) (fun a a1 a2 => funext fun z => by rw [k2 a z (by omega), e1, pn_o (by omega)])
      have hR2 : pm_R d2 84 0 Mi := pt_R_cp s5 (fun i hi => by rw [Nat.zero_add, k3 i hi, F1 _ _ (by omega) (by omega)]) s7
      have h9 : d2.1 0 9 = 0 := by rw [k2 0 9 (by omega), e1]; exact pn_e ⟨rfl, rfl⟩
      refine ⟨0, d1, d2, Mi, ?_, ?_, ⟨hC2, hR2, s5⟩, Or.inl h9, fun a z hs => ?_, fun a z _ _ _ _ => ?_⟩
      · rw [f_X11_restore, pn_wN _ 3 2 (by decide), pb_s, if_pos e, if_neg pn_10, hlk, hlk, A1, pb_s, pb_pI, pb_s, e1]
      · rw [f_X12_restore, pn_inN _ 3 2 (by decide), pb_s, if_pos e, if_neg pn_10, pn_rI hk (by omega), pb_s, F1 _ _ (by omega) (by omega), if_neg s4]
        exact k4
      · unfold pz_s at hs
        rw [k2 a z (by omega), F1 a z (by omega) (by omega)]
      · rw [k1, e1, pn_sI2, A2.1]
  · refine pz_no hI hY (r := -2) ?_ ?_
    · rw [f_X11_restore, pn_wN _ 3 2 (by decide), pb_s, if_neg e, if_pos rfl]
    · rw [f_X12_restore, pn_inN _ 3 2 (by decide), pb_s, if_neg e, if_pos rfl]
end
