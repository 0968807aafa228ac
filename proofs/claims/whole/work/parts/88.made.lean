/-! A seller alone: what the reference tells otherwise; best, worth, thursday -/
section
variable {d e : ya_D} {M : pm_M}
/-- BEST of a seller, with q asked at the prices P, where it keeps k -/
def pv_B (M : pm_M) (s k : Nat) (q P : Nat → Nat) : Nat := pv_V (pv_sc M s) k q P (M 0 1)
abbrev pv_B0 (M : pm_M) (s : Nat) : Nat := pv_B M s (M 1 (M 5 s)) (pv_sq M s) (pv_sp M s)
/-- what buyers want of a seller's thing at a price -/
abbrev pv_sw_ (M : pm_M) (s j x : Nat) : Nat := pm_wd M (M 5 s) j x (M 0 5)
/-- BEST if the thing cost x on day j -/
abbrev pv_B1 (M : pm_M) (s j x : Nat) : Nat := pv_B M s (M 1 (M 5 s)) (pn_up (pv_sq M s) j (pv_sw_ M s j x)) (pn_up (pv_sp M s) j x)
theorem pv_B_le (hW : pm_W M) {s k : Nat} {q P : Nat → Nat} (hq : ∀ t, t < M 0 1 → q t ≤ 63) : pv_B M s k q P ≤ 63 * 20 * 99 := by
  have hb := pm_b hW
  have h1 := pv_V_le (c := pv_sc M s) (q := q) (P := P) (k := k) (n := M 0 1)
  have h2 := pn_sum_le (f := q) (K := 63) (M 0 1) hq
  have h3 : pn_sum q (M 0 1) * 99 ≤ 63 * 20 * 99 := Nat.mul_le_mul_right 99 (by omega)
  exact Nat.le_trans h1 h3
theorem pv_sq_le (hW : pm_W M) {s : Nat} (t : Nat) : pv_sq M s t ≤ 63 := by
  unfold pv_sq
  split
  · exact pm_wd_le hW (Nat.le_refl _)
  · omega
theorem sb_best0 (hJ : pm_J e M) {s : Nat} (hs : s < M 0 4) : ∃ e', pz_r e e' ∧ f_X12_bestBut (nI s) (-1) e = some (nI (pv_B0 M s), e') := by
  have hb := pm_b hJ.2
  obtain ⟨e', h1, h2, h3⟩ := sb_best hJ hs (-1)
  refine ⟨e', ⟨h1, h2⟩, h3.trans ?_⟩
  have : pv_V (pm_cm M s) (M 1 (M 5 s)) (fun t => if nI t = -1 then 0 else pv_sq M s t) (pv_sp M s) (M 0 1) = pv_B0 M s := pv_V_c (fun t ht => (if_pos ht).symm) (fun t ht => if_neg (pn_m1 (by omega))) (fun t ht => rfl)
  rw [this]
theorem sb_but (hJ : pm_J e M) {s j : Nat} (hs : s < M 0 4) (hj : j < M 0 1) : ∃ e', pz_r e e' ∧ f_X12_bestBut (nI s) (nI j) e = some (nI (pv_B M s (M 1 (M 5 s)) (pn_up (pv_sq M s) j 0) (pv_sp M s)), e') := by
  have hb := pm_b hJ.2
  obtain ⟨e', h1, h2, h3⟩ := sb_best hJ hs (nI j)
  refine ⟨e', ⟨h1, h2⟩, h3.trans ?_⟩
  have : pv_V (pm_cm M s) (M 1 (M 5 s)) (fun t => if nI t = nI j then 0 else pv_sq M s t) (pv_sp M s) (M 0 1) = pv_B M s (M 1 (M 5 s)) (pn_up (pv_sq M s) j 0) (pv_sp M s) := pv_V_c (fun t ht => (if_pos ht).symm) (fun t ht => by
    unfold pn_up
    by_cases c : t = j
    · rw [if_pos c, if_pos (by rw [c])]
    · rw [if_neg c, if_neg (fun q => c ((nI_eq (by omega) (by omega)).mp q))]) (fun t ht => rfl)
  rw [this]
/-- the reference's price of a day changed, and back -/
theorem sb_made (hJ : pm_J e M) {s j x : Nat} (hs : s < M 0 4) (hj : j < M 0 1) (hx : x ≤ 99) : ∃ e', pz_r e e' ∧ f_X12_madeBy (nI s) (nI j) (nI x) e = some (nI (pv_B1 M s j x) - nI (pv_B0 M s), e') := by
  obtain ⟨⟨b0, b1, b2, b3, b4, b5⟩, w1, w2, w3, -, w5⟩ := pk_w hJ.2
  have h3 := w3 s hs
  obtain ⟨e1, A1, A2⟩ := sb_best0 hJ hs
  have hJ1 := pz_r_J hJ A1
  have hp := ((pk_r hJ.1).2.2.2.2.2.2.2.1 (M 5 s) j h3.1 hj).1
  have hR2 := pm_R_price (i := 20 * M 5 s + j) (v := x) (by omega) hJ1.2 hJ1.1
  rw [Nat.zero_add] at hR2
  have hJ2 : pm_J (ya_sI e1 84 (11 + (20 * M 5 s + j)) (nI x)) (pm_up M 2 (20 * M 5 s + j) x) := ⟨hR2, pm_W_price hx hJ.2⟩
  obtain ⟨e2, B1, B2⟩ := sb_best0 hJ2 (s := s) hs
  have hB : pv_B0 (pm_up M 2 (20 * M 5 s + j) x) s = pv_B1 M s j x := by
    refine pv_V_c (fun t ht => rfl) (fun t ht => ?_) (fun t ht => ?_)
    · replace ht : t < M 0 1 := ht
      show (if t < M 0 1 then pm_wd M (M 5 s) t (pm_up M 2 (20 * M 5 s + j) x 2 (20 * M 5 s + t)) (M 0 5) else 0) = _
      rw [if_pos ht]
      unfold pn_up
      by_cases c : t = j
      · rw [if_pos c, c, pm_upe]
      · rw [if_neg c, pm_upn (fun _ => by omega)]
        exact (if_pos ht).symm
    · replace ht : t < M 0 1 := ht
      show (if t < M 0 1 then pm_up M 2 (20 * M 5 s + j) x 2 (20 * M 5 s + t) else 0) = _
      rw [if_pos ht]
      unfold pn_up
      by_cases c : t = j
      · rw [if_pos c, c, pm_upe]
      · rw [if_neg c, pm_upn (fun _ => by omega)]
        exact (if_pos ht).symm
  rw [hB] at B2
  refine ⟨ya_sI e2 84 (11 + (20 * M 5 s + j)) (nI (M 2 (20 * M 5 s + j))), ⟨fun a h1 h2 => ?_, ?_⟩, ?_⟩
  · by_cases c : a = 84
    · subst c
      funext t
      by_cases c2 : t = 11 + (20 * M 5 s + j)
      · rw [c2, pn_e ⟨rfl, rfl⟩]; exact hp.symm
      · rw [pn_o (Or.inr c2), B1.1 84 (by omega) (by omega), pn_o (Or.inr c2), A1.1 84 (by omega) (by omega)]
    · rw [rw_n c, B1.1 a h1 h2, rw_n c, A1.1 a h1 h2]
  · show e2.2 = e.2
    rw [B1.2]; exact A1.2
  · unfold f_X12_madeBy
    rw [pk_thing hJ.1 hJ.2 hs, pb_s, pm_cell2, pb_s, pl_11, nI_add, pn_rI (by omega) (by omega), pb_s, hp, A2, ya_b2s, pn_wI (by omega) (by omega), pb_s, B2, ya_b2s, pn_wI (by omega) (by omega), pb_s]
theorem pm_R_keeps {d : ya_D} {M : pm_M} {w o i v : Nat} (hi : i < 5) (hW : pm_W M) (h : pm_R d w o M) : pm_R (ya_sI d w (o + (6 + i)) (nI v)) w o (pm_up M 1 i v) := by
  obtain ⟨h0, h1, h2, h3, h4, h5, h6, h7, h8, h9, h10⟩ := h
  obtain ⟨_, b1, _, b3, b4, b5, _⟩ := hW
  refine ⟨(pn_sIn (by omega)).trans h0, (pn_sIn (by omega)).trans h1, (pn_sIn (by omega)).trans h2, (pn_sIn (by omega)).trans h3, (pn_sIn (by omega)).trans h4, (pn_sIn (by omega)).trans h5, ?_, ?_, ?_, ?_, ?_⟩
  · intro x hx
    replace hx : x < M 0 3 := hx
    by_cases e : x = i
    · rw [e, pm_upe]
      exact pn_sIe
    · rw [pm_upn (fun _ => e), pn_sIn (by omega)]
      exact h6 x hx
  · intro x t hx ht
    replace hx : x < M 0 3 := hx
    replace ht : t < M 0 1 := ht
    have h7 := h7 x t hx ht
    exact ⟨(pn_sIn (by omega)).trans h7.1, (pn_sIn (by omega)).trans h7.2.1, (pn_sIn (by omega)).trans h7.2.2⟩
  · intro s hs
    replace hs : s < M 0 4 := hs
    have h8 := h8 s hs
    exact ⟨(pn_sIn (by omega)).trans h8.1, (pn_sIn (by omega)).trans h8.2.1, (pn_sIn (by omega)).trans h8.2.2⟩
  · intro s e hs he
    replace hs : s < M 0 4 := hs
    replace he : e < M 0 1 := he
    exact (pn_sIn (by omega)).trans (h9 s e hs he)
  · intro b hb
    replace hb : b < M 0 5 := hb
    have h10 := h10 b hb
    exact ⟨(pn_sIn (by omega)).trans h10.1, (pn_sIn (by omega)).trans h10.2.1, (pn_sIn (by omega)).trans h10.2.2.1, (pn_sIn (by omega)).trans h10.2.2.2.1, (pn_sIn (by omega)).trans h10.2.2.2.2.1, (pn_sIn (by omega)).trans h10.2.2.2.2.2⟩
theorem pm_W_keeps {M : pm_M} {i v : Nat} (hv : v ≤ 30) (h : pm_W M) : pm_W (pm_up M 1 i v) := by
  obtain ⟨h0, h1, h2, h3, h4, h5, h6, h7, h8, h9, h10, h11, h12⟩ := h
  refine ⟨h0, h1, h2, h3, h4, h5, h6, h7, fun x hx => ?_, h9, h10, h11, h12⟩
  by_cases e : x = i
  · rw [e, pm_upe]; exact hv
  · rw [pm_upn (fun _ => e)]; exact h8 x hx
theorem sb_keep (hJ : pm_J e M) {s x : Nat} (hs : s < M 0 4) (hx : x ≤ 30) : ∃ e', pz_r e e' ∧ f_X12_bestKeeping (nI s) (nI x) e = some (nI (pv_B M s x (pv_sq M s) (pv_sp M s)), e') := by
  obtain ⟨⟨b0, b1, b2, b3, b4, b5⟩, w1, w2, w3, -, w5⟩ := pk_w hJ.2
  have h3 := w3 s hs
  have hp := (pk_r hJ.1).2.2.2.2.2.2.1 (M 5 s) h3.1
  have hR2 := pm_R_keeps (i := M 5 s) (v := x) (by omega) hJ.2 hJ.1
  rw [Nat.zero_add] at hR2
  have hJ2 : pm_J (ya_sI e 84 (6 + M 5 s) (nI x)) (pm_up M 1 (M 5 s) x) := ⟨hR2, pm_W_keeps hx hJ.2⟩
  obtain ⟨e2, B1, B2⟩ := sb_best0 hJ2 (s := s) hs
  have hB : pv_B0 (pm_up M 1 (M 5 s) x) s = pv_B M s x (pv_sq M s) (pv_sp M s) := by
    have e1 : pm_up M 1 (M 5 s) x 1 (pm_up M 1 (M 5 s) x 5 s) = x := pm_upe
    show pv_B (pm_up M 1 (M 5 s) x) s (pm_up M 1 (M 5 s) x 1 (pm_up M 1 (M 5 s) x 5 s)) _ _ = _
    rw [e1]
    rfl
  rw [hB] at B2
  refine ⟨ya_sI e2 84 (6 + M 5 s) (nI (M 1 (M 5 s))), ⟨fun a h1 h2 => ?_, ?_⟩, ?_⟩
  · by_cases c : a = 84
    · subst c
      funext t
      by_cases c2 : t = 6 + M 5 s
      · rw [c2, pn_e ⟨rfl, rfl⟩]; exact hp.symm
      · rw [pn_o (Or.inr c2), B1.1 84 (by omega) (by omega), pn_o (Or.inr c2)]
    · rw [rw_n c, B1.1 a h1 h2, rw_n c]
  · show e2.2 = e.2
    exact B1.2
  · unfold f_X12_bestKeeping
    rw [pk_thing hJ.1 hJ.2 hs, pb_s, pl_6, nI_add, pn_rI (by omega) (by omega), pb_s, hp, pn_wI (by omega) (by omega), pb_s, B2, ya_b2s, pn_wI (by omega) (by omega), pb_s]
theorem pz_best (hI : pm_I d M) (hY : pz_Y d M) (v : Int32) : pz_op d M (f_X11_best v) (f_X12_best v) := by
  by_cases e1 : pn_ok v (M 0 4)
  · obtain ⟨s, hs, hs3, rfl⟩ := pn_ok_ex e1
    obtain ⟨d1, A1, A2, A3⟩ := sa_load hI hs
    obtain ⟨d2, B1, B2, B3⟩ := sa_bring7 A1
    obtain ⟨C1, C2, C3⟩ := pz_7_A hI hY (pz_7_t A2 B2)
    obtain ⟨d3, D1, D2⟩ := sb_best0 C1.2 hs
    obtain ⟨E1, E2, E3⟩ := pz_r_A C1 C2 D1
    refine ⟨nI (pv_B0 M s), d2, d3, M, ?_, ?_, E1, E2, pz_F_t C3 E3⟩
    · unfold f_X11_best
      rw [pm_isSeller1 hI, Option.bind_some, if_pos e1, if_neg pn_10, A3, pb_s, B3, ya_b2s]
      rfl
    · unfold f_X12_best
      rw [pm_isSeller2 C1.2, Option.bind_some, if_pos e1, if_neg pn_10, D2, ya_b2s]
  · refine pz_no hI hY (r := -2) ?_ ?_
    · unfold f_X11_best
      rw [pm_isSeller1 hI, Option.bind_some, if_neg e1, if_pos rfl]
    · unfold f_X12_best
      rw [pm_isSeller2 hI.2, Option.bind_some, if_neg e1, if_pos rfl]
theorem pz_worth (hI : pm_I d M) (hY : pz_Y d M) (v w : Int32) : pz_op d M (f_X11_worth v w) (f_X12_worth v w) := by
  by_cases e1 : pn_ok v (M 0 4)
  · by_cases e2 : pn_ok w (M 0 1)
    · obtain ⟨s, hs, hs3, rfl⟩ := pn_ok_ex e1
      obtain ⟨j, hj, hj3, rfl⟩ := pn_ok_ex e2
      obtain ⟨d1, A1, A2, A3⟩ := sa_load hI hs
      obtain ⟨d2, B1, B2, B3⟩ := sa_bring7 A1
      obtain ⟨d3, F1, F2, F3⟩ := sa_without B1 hj
      obtain ⟨C1, C2, C3⟩ := pz_7_A hI hY (pz_7_t (pz_7_t A2 B2) F2)
      obtain ⟨d4, D1, D2⟩ := sb_best0 C1.2 hs
      obtain ⟨d5, G1, G2⟩ := sb_but (pz_r_J C1.2 D1) hs hj
      obtain ⟨E1, E2, E3⟩ := pz_r_A C1 C2 (pz_r_t D1 G1)
      refine ⟨nI (pv_B0 M s) - nI (pv_B M s (M 1 (M 5 s)) (pn_up (pv_sq M s) j 0) (pv_sp M s)), d3, d5, M, ?_, ?_, E1, E2, pz_F_t C3 E3⟩
      · unfold f_X11_worth
        rw [pm_isSeller1 hI, Option.bind_some, if_pos e1, pj_0, if_neg pn_10, pm_isDay1 hI, Option.bind_some, if_pos e2, if_neg pn_10, A3, pb_s, B3, ya_b2s, F3, ya_b2s]
        rfl
      · unfold f_X12_worth
        rw [pm_isSeller2 C1.2, Option.bind_some, if_pos e1, pj_0, if_neg pn_10, pm_isDay2 C1.2, Option.bind_some, if_pos e2, if_neg pn_10, D2, ya_b2s, G2, ya_b2s]
    · refine pz_no hI hY (r := -2) ?_ ?_
      · unfold f_X11_worth
        rw [pm_isSeller1 hI, Option.bind_some, if_pos e1, pj_0, if_neg pn_10, pm_isDay1 hI, Option.bind_some, if_neg e2, if_pos rfl]
      · unfold f_X12_worth
        rw [pm_isSeller2 hI.2, Option.bind_some, if_pos e1, pj_0, if_neg pn_10, pm_isDay2 hI.2, Option.bind_some, if_neg e2, if_pos rfl]
  · refine pz_no hI hY (r := -2) ?_ ?_
    · unfold f_X11_worth
      rw [pm_isSeller1 hI, Option.bind_some, if_neg e1, pj_0, if_pos rfl]
    · unfold f_X12_worth
      rw [pm_isSeller2 hI.2, Option.bind_some, if_neg e1, pj_0, if_pos rfl]
theorem pz_thursday (hI : pm_I d M) (hY : pz_Y d M) (v : Int32) : pz_op d M (f_X11_thursday v) (f_X12_thursday v) := by
  have hb := pm_b hI.2.2
  by_cases e1 : pn_ok v (M 0 4)
  · obtain ⟨s, hs, hs3, rfl⟩ := pn_ok_ex e1
    have hn : 0 < M 0 1 := by omega
    obtain ⟨d1, A1, A2, A3⟩ := sa_load hI hs
    obtain ⟨d2, B1, B2, B3⟩ := sa_bring7 A1
    have hB0 := pv_B_le hI.2.2 (s := s) (k := M 1 (M 5 s)) (q := pv_sq M s) (P := pv_sp M s) (fun t _ => pv_sq_le hI.2.2 t)
    by_cases c0 : pv_B0 M s = 0
    · obtain ⟨C1, C2, C3⟩ := pz_7_A hI hY (pz_7_t A2 B2)
      obtain ⟨d3, D1, D2⟩ := sb_best0 C1.2 hs
      obtain ⟨E1, E2, E3⟩ := pz_r_A C1 C2 D1
      have hz : nI (pv_V (pv_sc M s) (M 1 (M 5 s)) (pv_sq M s) (pv_sp M s) (M 0 1)) = 0 := by
        have : pv_V (pv_sc M s) (M 1 (M 5 s)) (pv_sq M s) (pv_sp M s) (M 0 1) = 0 := c0
        rw [this]; rfl
      refine ⟨-1, d2, d3, M, ?_, ?_, E1, E2, pz_F_t C3 E3⟩
      · unfold f_X11_thursday
        rw [pm_isSeller1 hI, Option.bind_some, if_pos e1, if_neg pn_10, A3, pb_s, B3, ya_b2s, if_pos hz]
      · unfold f_X12_thursday
        rw [pm_isSeller2 C1.2, Option.bind_some, if_pos e1, if_neg pn_10, D2, ya_b2s, if_pos (by rw [c0]; rfl)]
    · have hW : ∀ t, pv_B M s (M 1 (M 5 s)) (pn_up (pv_sq M s) t 0) (pv_sp M s) ≤ 63 * 20 * 99 := fun t => pv_B_le hI.2.2 (fun i _ => by
        unfold pn_up
        split
        · omega
        · exact pv_sq_le hI.2.2 i)
      obtain ⟨f, hf⟩ : ∃ f : Nat → Nat, f = fun t => pv_B M s (M 1 (M 5 s)) (pn_up (pv_sq M s) t 0) (pv_sp M s) := ⟨_, rfl⟩
      have hfb : ∀ t, f t ≤ 63 * 20 * 99 := fun t => by rw [hf]; exact hW t
      have h1 : pn_an f 1 = 0 := by rw [pn_an, pn_an, if_pos (Nat.le_refl _)]
      obtain ⟨d3, F1, F2, F3⟩ := sa_without B1 hn
      -- the class's loop
      have cl := pq_lp (G := fun fu i (z : ya_D) => f_X11_thursday_L49 fu (nI (pn_an f i)) (nI (f (pn_an f i))) (nI i) z) (E := fun (z : Int32 × ya_D) => some z) (n := M 0 1)
        (I := fun i z => 1 ≤ i ∧ sa_L z (pv_sc M s) (pv_sq M s) (pv_sp M s) (M 1 (M 5 s)) (M 0 1) ∧ pz_7 d z) (Q := fun z => z.1 = nI (pn_an f (M 0 1)) ∧ pz_7 d z.2)
        (fun fu z hI2 => ?_) (fun fu i z hi hI2 => Or.inr ?_) ya_F 1 d3 (by omega) (by unfold ya_F; omega) ⟨Nat.le_refl _, F1, pz_7_t (pz_7_t A2 B2) F2⟩
      · obtain ⟨z, ⟨q1, q2⟩, q3⟩ := cl
        obtain ⟨C1, C2, C3⟩ := pz_7_A hI hY q2
        obtain ⟨d4, D1, D2⟩ := sb_best0 C1.2 hs
        obtain ⟨d5, G1, G2⟩ := sb_but (pz_r_J C1.2 D1) hs hn
        have rl := pq_lp (G := fun fu i (y : ya_D) => f_X12_thursday_L34 (nI s) fu (nI (pn_an f i)) (nI (f (pn_an f i))) (nI i) y) (E := fun (y : Int32 × ya_D) => some y) (n := M 0 1)
          (I := fun i y => 1 ≤ i ∧ pz_r z.2 y) (Q := fun y => y.1 = nI (pn_an f (M 0 1)) ∧ pz_r z.2 y.2)
          (fun fu y hI2 => ?_) (fun fu i y hi hI2 => Or.inr ?_) ya_F 1 d5 (by omega) (by unfold ya_F; omega) ⟨Nat.le_refl _, pz_r_t D1 G1⟩
        · obtain ⟨y, ⟨r1, r2⟩, r3⟩ := rl
          obtain ⟨E1, E2, E3⟩ := pz_r_A C1 C2 r2
          rw [h1] at q3 r3
          have hf0 : f 0 = pv_V (pv_sc M s) (M 1 (M 5 s)) (pn_up (pv_sq M s) 0 0) (pv_sp M s) (M 0 1) := by rw [hf]; rfl
          refine ⟨nI (pn_an f (M 0 1)), z.2, y.2, M, ?_, ?_, E1, E2, pz_F_t C3 E3⟩
          · unfold f_X11_thursday
            rw [pm_isSeller1 hI, Option.bind_some, if_pos e1, if_neg pn_10, A3, pb_s, B3, ya_b2s, if_neg (show ¬ nI (pv_V (pv_sc M s) (M 1 (M 5 s)) (pv_sq M s) (pv_sp M s) (M 0 1)) = 0 from nI_ne0 (Nat.pos_of_ne_zero c0) (Nat.lt_of_le_of_lt hB0 (by omega))), pl_0, F3, ya_b2s, ← hf0, pl_1, q3, ← q1]
          · unfold f_X12_thursday
            rw [pm_isSeller2 C1.2, Option.bind_some, if_pos e1, if_neg pn_10, D2, ya_b2s, if_neg (nI_ne0 (Nat.pos_of_ne_zero c0) (Nat.lt_of_le_of_lt hB0 (by omega))), pl_0, G2, ya_b2s]
            have hf0' : pv_B M s (M 1 (M 5 s)) (pn_up (pv_sq M s) 0 0) (pv_sp M s) = f 0 := by rw [hf]
            rw [hf0', pl_1, r3, ← r1]
        · refine ⟨(nI (pn_an f (M 0 1)), y), ⟨rfl, hI2.2⟩, ?_⟩
          show f_X12_thursday_L34 _ (fu + 1) _ _ _ _ = _
          rw [f_X12_thursday_L34, pm_dy2 (pz_r_J C1.2 hI2.2), pb_s, if_pos (nI_le (Nat.le_refl _) (by omega))]
        · obtain ⟨d6, H1, H2⟩ := sb_but (pz_r_J C1.2 hI2.2) hs hi
          have hfi : pv_B M s (M 1 (M 5 s)) (pn_up (pv_sq M s) i 0) (pv_sp M s) = f i := by rw [hf]
          have g1 := hfb i
          have g2 := hfb (pn_an f i)
          refine ⟨d6, ⟨by omega, pz_r_t hI2.2 H1⟩, ?_⟩
          show f_X12_thursday_L34 _ (fu + 1) _ _ _ _ = f_X12_thursday_L34 _ fu _ _ _ _
          rw [f_X12_thursday_L34, pm_dy2 (pz_r_J C1.2 hI2.2), pb_s, if_neg (nI_ge hi (by omega)), H2, ya_b2s, pj_2, hfi, pn_an]
          by_cases c : f (pn_an f i) ≤ f i
          · rw [if_pos c, if_neg (nI_nlt c (by omega)), nI_1]
          · rw [if_neg c, if_pos (nI_lt (by omega) (by omega)), nI_1]
      · obtain ⟨q0, q1, q2⟩ := hI2
        refine ⟨(nI (pn_an f (M 0 1)), z), ⟨rfl, q2⟩, ?_⟩
        show f_X11_thursday_L49 (fu + 1) _ _ _ _ = _
        rw [f_X11_thursday_L49, q2.1 24 (by omega), (pk_c hI.1).2.1, if_pos (nI_le (Nat.le_refl _) (by omega))]
      · obtain ⟨q0, q1, q2⟩ := hI2
        obtain ⟨z', H1, H2, H3⟩ := sa_without q1 hi
        have hfi : pv_V (pv_sc M s) (M 1 (M 5 s)) (pn_up (pv_sq M s) i 0) (pv_sp M s) (M 0 1) = f i := by rw [hf]; rfl
        have g1 := hfb i
        have g2 := hfb (pn_an f i)
        refine ⟨z', ⟨by omega, H1, pz_7_t q2 H2⟩, ?_⟩
        show f_X11_thursday_L49 (fu + 1) _ _ _ _ = f_X11_thursday_L49 fu _ _ _ _
        rw [f_X11_thursday_L49, q2.1 24 (by omega), (pk_c hI.1).2.1, if_neg (nI_ge hi (by omega)), H3, ya_b2s, pj_2, hfi, pn_an]
        by_cases c : f (pn_an f i) ≤ f i
        · rw [if_pos c, if_pos (nI_le c (by omega)), nI_1]
        · rw [if_neg c, if_neg (nI_ge (by omega) (by omega)), nI_1]
  · refine pz_no hI hY (r := -2) ?_ ?_
    · unfold f_X11_thursday
      rw [pm_isSeller1 hI, Option.bind_some, if_neg e1, if_pos rfl]
    · unfold f_X12_thursday
      rw [pm_isSeller2 hI.2, Option.bind_some, if_neg e1, if_pos rfl]
end
