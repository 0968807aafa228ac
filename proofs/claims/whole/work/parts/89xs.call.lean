/-! Market: the call -/
section
variable {n : Nat} {b : Nat → Nat} {d d' d0 e0 e e' : ya_D} {l y c nt ns nb : Nat} {M : pm_M} {G : ya_G}
theorem pr_i1 (d : ya_D) : ∃ d1, f_X3_readAll d = f_X3_readAll_L26 ya_F (nI 0) d1 ∧ pr_LF d d1 ∧ d1.1 3 4 = 0 ∧ d1.1 3 5 = -1 ∧ d1.1 22 2 = nI 0 ∧ d1.1 4 0 = nI 0 ∧ d1.1 4 1 = nI 0 ∧ d1.1 4 2 = nI 0 ∧ d1.1 5 0 = nI 0 ∧ d1.1 10 0 = nI 0 ∧ d1.1 15 0 = nI 0 := by
  refine ⟨ya_sI (ya_sI (ya_sI (ya_sI (ya_sI (ya_sI (ya_sI (ya_sI (ya_sI d 4 0 0) 4 1 0) 4 2 0) 5 0 0) 10 0 0) 15 0 0) 22 2 0) 3 4 0) 3 5 (-1), ?_, ⟨rfl, fun a z q1 q2 => ?_⟩, ?_, pn_e ⟨rfl, rfl⟩, ?_, ?_, ?_, ?_, ?_, ?_, ?_⟩
  · rw [f_X3_readAll, f_X2_empty]
    simp only [Nat.reduceAdd]
    rw [pb_pI, pb_s, pb_pI, pb_s, pb_pI, pb_s, pb_pI, pb_s, pb_pI, pb_s, pb_pI, pb_s, pb_s, f_X9_begin, pb_pI, pb_s, pb_s, pb_pI, pb_s, pb_pI, pb_s]
    rfl
  · rw [pn_o (by omega), pn_o (by omega), pn_o (by omega), pn_o (by omega), pn_o (by omega), pn_o (by omega), pn_o (by omega), pn_o (by omega), pn_o (by omega)]
  · rw [pn_o (by omega)]; exact pn_e ⟨rfl, rfl⟩
  · rw [pn_o (by omega), pn_o (by omega)]; exact pn_e ⟨rfl, rfl⟩
  · rw [pn_o (by omega), pn_o (by omega), pn_o (by omega), pn_o (by omega), pn_o (by omega), pn_o (by omega), pn_o (by omega), pn_o (by omega)]; exact pn_e ⟨rfl, rfl⟩
  · rw [pn_o (by omega), pn_o (by omega), pn_o (by omega), pn_o (by omega), pn_o (by omega), pn_o (by omega), pn_o (by omega)]; exact pn_e ⟨rfl, rfl⟩
  · rw [pn_o (by omega), pn_o (by omega), pn_o (by omega), pn_o (by omega), pn_o (by omega), pn_o (by omega)]; exact pn_e ⟨rfl, rfl⟩
  · rw [pn_o (by omega), pn_o (by omega), pn_o (by omega), pn_o (by omega), pn_o (by omega)]; exact pn_e ⟨rfl, rfl⟩
  · rw [pn_o (by omega), pn_o (by omega), pn_o (by omega), pn_o (by omega)]; exact pn_e ⟨rfl, rfl⟩
  · rw [pn_o (by omega), pn_o (by omega), pn_o (by omega)]; exact pn_e ⟨rfl, rfl⟩
def pr_K : ya_D → Option (Int32 × ya_D) := fun (d_75 : ya_D) =>
      (f_X12_good d_75).bind fun x76 =>
      if x76 = 0 then
        some ((-4), d_75)
      else
      f_X12_market_L87  ya_F 0 d_75
def pr_K0 : ya_D → Option (Int32 × ya_D) := fun (d_50 : ya_D) =>
    (f_X12_advance d_50).bind fun d51 =>
    f_X12_market_L54 pr_K ya_F d51
theorem pr_i2 (hn : n ≤ 2000) (h5 : e.1 83 5 = nI n) (hb : ∀ j, j < n → b j < 256 ∧ e.1 87 j = (nI (b j)).toInt8.toInt32) : ∃ e5 e6, f_X12_market e = f_X12_market_L54 pr_K ya_F e6 ∧ pr_tr e5 n b ∧ pr_rS n b e5 e6 (.inr 0) ∧ (∀ k, k < 468 → e6.1 89 k = 0) ∧ e5.2 = e.2 ∧ (∀ a z, a ≠ 83 → a ≠ 89 → e5.1 a z = e.1 a z) ∧ e5.1 83 5 = nI 0 := by
  obtain ⟨g, hg⟩ : ∃ g, g = ya_sI (ya_sI (ya_sI (ya_sI (ya_sI e 83 7 (nI n)) 83 5 0) 83 8 0) 83 12 0) 83 13 (-1) := ⟨_, rfl⟩
  have m1 : f_X12_market e = f_X12_market_L30 pr_K0 ya_F (nI 0) g := by
    rw [f_X12_market, h5, pb_pI, pb_s, pb_pI, pb_s, pb_pI, pb_s, pb_pI, pb_s, pb_pI, pb_s, ← hg]
    rfl
  have key := pq_lp (G := fun fu i (s : ya_D) => f_X12_market_L30 pr_K0 fu (nI i) s) (E := pr_K0) (n := 468)
    (I := fun i s => s.2 = g.2 ∧ (∀ a z, a ≠ 89 → s.1 a z = g.1 a z) ∧ ∀ j, j < i → s.1 89 j = 0)
    (Q := fun s => s.2 = g.2 ∧ (∀ a z, a ≠ 89 → s.1 a z = g.1 a z) ∧ ∀ j, j < 468 → s.1 89 j = 0)
    (fun fu s hs => ⟨s, hs, by rw [f_X12_market_L30, if_pos (by decide)]⟩)
    (fun fu i s hi hs => Or.inr ⟨ya_sI s 89 i 0, ⟨hs.1, fun a z q => by rw [pn_o (Or.inl q)]; exact hs.2.1 a z q, fun j hj => by
        by_cases cc : j = i
        · rw [cc]; exact pn_e ⟨rfl, rfl⟩
        · rw [pn_o (by omega)]; exact hs.2.2 j (by omega)⟩, by
        rw [f_X12_market_L30, if_neg (by rw [show (468 : Int32) = nI 468 from rfl, pn_le (by omega) (by omega)]; omega), pn_wI hi (by omega), pb_s, nI_1]⟩)
  obtain ⟨s, ⟨k1, k2, k3⟩, k4⟩ := key ya_F 0 g (by omega) (by rw [ya_F]; omega) ⟨rfl, fun _ _ _ => rfl, fun j hj => absurd hj (Nat.not_lt_zero j)⟩
  have g7 : g.1 83 7 = nI n := by rw [hg, pn_o (by omega), pn_o (by omega), pn_o (by omega), pn_o (by omega)]; exact pn_e ⟨rfl, rfl⟩
  have g5 : g.1 83 5 = nI 0 := by rw [hg, pn_o (by omega), pn_o (by omega), pn_o (by omega)]; exact pn_e ⟨rfl, rfl⟩
  have g8 : g.1 83 8 = nI 0 := by rw [hg, pn_o (by omega), pn_o (by omega)]; exact pn_e ⟨rfl, rfl⟩
  have g12 : g.1 83 12 = 0 := by rw [hg, pn_o (by omega)]; exact pn_e ⟨rfl, rfl⟩
  have g13 : g.1 83 13 = -1 := by rw [hg]; exact pn_e ⟨rfl, rfl⟩
  have gF : ∀ a z, a ≠ 83 → g.1 a z = e.1 a z := fun a z q => by rw [hg, pn_o (Or.inl q), pn_o (Or.inl q), pn_o (Or.inl q), pn_o (Or.inl q), pn_o (Or.inl q)]
  have st : pr_tr s n b := ⟨hn, by rw [k2 _ _ (by omega)]; exact g7, fun j hj => ⟨(hb j hj).1, by rw [k2 _ _ (by omega), gF _ _ (by omega)]; exact (hb j hj).2⟩⟩
  obtain ⟨e6, A1, A2, A3, A4⟩ := pr_adv (i := 0) st (Nat.zero_le _) (by rw [k2 _ _ (by omega)]; exact g8)
  refine ⟨s, e6, ?_, st, ⟨⟨A3, fun a z q1 q2 => A4 a z (Or.inl q1), fun z hz => A4 _ _ (by omega)⟩, ?_, ?_, Nat.zero_le _, A2⟩, fun k hk => ?_, ?_, fun a z q1 q2 => ?_, ?_⟩
  · rw [m1]
    refine k4.trans ?_
    unfold pr_K0
    rw [A1, pb_s]
  · rw [A4 _ _ (by omega), k2 _ _ (by omega)]; exact g12
  · rw [A4 _ _ (by omega), k2 _ _ (by omega)]; exact g13
  · rw [A4 _ _ (by omega)]; exact k3 k hk
  · rw [k1, hg]; rfl
  · rw [k2 a z q2]; exact gF a z q1
  · rw [k2 _ _ (by omega)]; exact g5
theorem pr_i3 (e : ya_D) : ∃ e', f_X12_market_L87 ya_F 0 e = some (e.1 89 4, e') ∧ e'.2 = e.2 ∧ (∀ k, k < 468 → e'.1 84 k = e.1 89 k) ∧ ∀ a z, a ≠ 84 → e'.1 a z = e.1 a z := by
  have key := pq_lp (G := fun fu i (s : ya_D) => f_X12_market_L87 fu (nI i) s) (E := fun s : ya_D => some (s.1 84 4, s)) (n := 468)
    (I := fun i s => s.2 = e.2 ∧ (∀ a z, a ≠ 84 → s.1 a z = e.1 a z) ∧ ∀ j, j < i → s.1 84 j = e.1 89 j)
    (Q := fun s => s.2 = e.2 ∧ (∀ a z, a ≠ 84 → s.1 a z = e.1 a z) ∧ ∀ j, j < 468 → s.1 84 j = e.1 89 j)
    (fun fu s hs => ⟨s, hs, by
      rw [f_X12_market_L87, if_pos (by decide), show (4 : Int32) = nI 4 from rfl, pn_rI (by omega) (by omega), pb_s]⟩)
    (fun fu i s hi hs => Or.inr ⟨ya_sI s 84 i (e.1 89 i), ⟨hs.1, fun a z q => by rw [pn_o (Or.inl q)]; exact hs.2.1 a z q, fun j hj => by
        by_cases cc : j = i
        · rw [cc]; exact pn_e ⟨rfl, rfl⟩
        · rw [pn_o (by omega)]; exact hs.2.2 j (by omega)⟩, by
        rw [f_X12_market_L87, if_neg (by rw [show (468 : Int32) = nI 468 from rfl, pn_le (by omega) (by omega)]; omega), pn_rI hi (by omega), pb_s, hs.2.1 89 i (by omega), pn_wI hi (by omega), pb_s, nI_1]⟩)
  obtain ⟨s, ⟨k1, k2, k3⟩, k4⟩ := key ya_F 0 e (by omega) (by rw [ya_F]; omega) ⟨rfl, fun _ _ _ => rfl, fun j hj => absurd hj (Nat.not_lt_zero j)⟩
  refine ⟨s, ?_, k1, k3, k2⟩
  rw [show e.1 89 4 = s.1 84 4 from (k3 4 (by omega)).symm]
  exact k4
/-- the invariant goes through market -/
theorem pg_mk (h : pg_I G d) {e : ya_D} (hM : ∃ M', pm_I e M' ∧ pz_Y e M') (h1 : e.1 1 1 = nI 0) (h5 : e.1 83 5 = nI 0) (hf : e.1 3 4 = e.1 83 12 ∧ e.1 3 5 = e.1 83 13) (hF2 : e.2 = d.2) (hF : ∀ a, 85 ≤ a → a ≠ 87 → a ≠ 89 → e.1 a = d.1 a) : pg_I G e := by
  obtain ⟨-, -, -, hG, hS, hIm⟩ := h
  refine ⟨hM, ⟨0, fun _ => 0, by omega, h1, h5, fun i hi => absurd hi (Nat.not_lt_zero i)⟩, hf, hG, fun k hk => ?_, fun k hk => ?_⟩
  · refine pt_S_c (hS k hk) rfl (Nat.le_refl _) (by rw [hF 104 (by omega) (by omega) (by omega)]) (by rw [hF 105 (by omega) (by omega) (by omega)]) (fun i hi => by rw [hF2]) (fun q hq => ?_)
    have x := hG.2.1 k q hk hq
    rw [hF q (by omega) (by omega) (by omega), hF2]
    exact ⟨rfl, rfl, fun _ _ => rfl⟩
  · refine pt_G_c (hIm k hk) rfl (Nat.le_refl _) (by rw [hF 86 (by omega) (by omega) (by omega)]) (fun i hi => by rw [hF 85 (by omega) (by omega) (by omega)]) (fun q hq a a1 a2 => ?_)
    have x := hG.2.2.1 k q hk hq
    exact hF a (by omega) (by omega) (by omega)
theorem pg_market (h : pg_I G d) : pg_2 G d f_X11_market f_X12_market := by
  have h' := h
  obtain ⟨⟨M, hI, hY⟩, ⟨n, b, t1, t2, t3, t4⟩, ⟨f1, f2⟩, hG, hS, hIm⟩ := h'
  obtain ⟨d1, I1, LF, I4, I5, I22, a0, a1, a2, a3, a4, a5⟩ := pr_i1 d
  have tp : pr_tp d1 n b := ⟨t1, (LF.2 1 1 (by omega) (by omega)).trans t2, fun j hj => ⟨(t4 j hj).1, (LF.2 2 j (by omega) (by omega)).trans (t4 j hj).2.1⟩⟩
  have run : ∀ e : ya_D, e.1 83 5 = nI n → (∀ j, j < n → e.1 87 j = (nI (b j)).toInt8.toInt32) → ∃ r d' e' e5, f_X3_readAll d = some (r, d') ∧ f_X12_market e = pr_K e' ∧ pr_end n b d1 e5 r d' e' ∧ e5.2 = e.2 ∧ (∀ a z, a ≠ 83 → a ≠ 89 → e5.1 a z = e.1 a z) ∧ e5.1 83 5 = nI 0 := fun e h5 h87 => by
    obtain ⟨e5, e6, B1, B2, B3, B4, B5, B6, B7⟩ := pr_i2 (b := b) t1 h5 (fun j hj => ⟨(t4 j hj).1, h87 j hj⟩)
    have Z : pr_Z d1.1 (e6.1 89) 0 0 0 0 0 0 := ⟨⟨a0, a1, a2, a3, a4, a5⟩, ⟨B4 4 (by omega), B4 0 (by omega), B4 5 (by omega), B4 1 (by omega), B4 2 (by omega), B4 3 (by omega)⟩, ⟨by omega, by omega, by omega, by omega, by omega, by omega, by omega⟩, fun x hx => absurd hx (Nat.not_lt_zero x), fun x t hx => absurd hx (Nat.not_lt_zero x), fun x hx => absurd hx (Nat.not_lt_zero x), fun x t hx => absurd hx (Nat.not_lt_zero x), fun s t q1 q2 q3 => B4 _ (by omega), fun x hx => absurd hx (Nat.not_lt_zero x)⟩
    obtain ⟨r, d', e', C1, C2, C3⟩ := pr_loop (K := pr_K) B2 n 0 0 0 ya_F ya_F d1 e6 0 0 0 0 0 (by omega) (by rw [ya_F]; omega) (by rw [ya_F]; omega) (by omega) (by omega) (by omega) tp I4 I5 I22 B3 Z
    exact ⟨r, d', e', e5, by rw [I1]; exact C1, by rw [B1]; exact C2, C3, B5, B6, B7⟩
  obtain ⟨r, d', -, -, R1, -⟩ := run d t3 (fun j hj => (t4 j hj).2.2)
  obtain ⟨d17, hd17⟩ : ∃ x, x = ya_sI d' 1 1 0 := ⟨_, rfl⟩
  by_cases hr : r = 0
  · have LFd : pr_LF d1 d' → ∀ (a z : Nat), (a < 4 ∨ 23 < a) → (a ≠ 3 ∨ z < 3 ∨ 5 < z) → (a ≠ 1 ∨ z ≠ 1) → d17.1 a z = d.1 a z := fun q a z q1 q2 q3 => by
      rw [hd17, pn_o q3, q.2 a z q1 q2, LF.2 a z q1 q2]
    have LF' : pr_LF d1 d' := by
      obtain ⟨r2, d2, e2, e5, S1, -, S3, -⟩ := run d t3 (fun j hj => (t4 j hj).2.2)
      rw [R1] at S1
      cases S1
      exact S3.1
    have F17 := LFd LF'
    obtain ⟨r2, d2, e2, e5, S1, S2, S3, S4, S5, S6⟩ := run d17 (by rw [F17 _ _ (by omega) (by omega) (by omega)]; exact t3) (fun j hj => by rw [F17 _ _ (by omega) (by omega) (by omega)]; exact (t4 j hj).2.2)
    rw [R1] at S1
    cases S1
    rcases S3.2 with ⟨z, -⟩ | ⟨-, f, T1, T2, T3⟩
    · rw [z] at hr; exact absurd hr (by decide)
    · obtain ⟨⟨fr1, fr2, fr3⟩, T4, T5, T8, T9⟩ := T1
      have E : ∀ a z, a ≠ 83 → a ≠ 89 → e2.1 a z = d17.1 a z := fun a z q1 q2 => (fr2 a z q1 q2).trans (S5 a z q1 q2)
      have ED : ∀ a, (a < 3 ∨ 23 < a) → a ≠ 83 → a ≠ 89 → a ≠ 1 → e2.1 a = d.1 a := fun a q0 q1 q2 q3 => funext fun z => by rw [E a z q1 q2, F17 a z (by omega) (by omega) (by omega)]
      have E2 : e2.2 = d.2 := by rw [fr1, S4, hd17, pn_sI2, LF'.1, LF.1]
      refine ⟨-4, d17, e2, ?_, ?_, pg_mk h ⟨M, ⟨pt_C_c hI.1 (fun a q1 q2 => ED a (by omega) (by omega) (by omega) (by omega)), pm_R_c hI.2.1 (fun k => by rw [ED 84 (by omega) (by omega) (by omega) (by omega)]), hI.2.2⟩, pz_Y_c hY (fun a q1 q2 => ED a (by omega) (by omega) (by omega) (by omega)) (by rw [E2]) (by rw [ED 0 (by omega) (by omega) (by omega) (by omega)])⟩ ?_ ?_ ⟨?_, ?_⟩ E2 (fun a q1 q2 q3 => ED a (by omega) (by omega) (by omega) (by omega))⟩
      · rw [f_X11_market, R1, ya_b2s, pb_pI, pb_s, if_pos hr, ← hd17]
      · rw [S2]
        unfold pr_K
        rw [pr_good, if_neg (by rw [T4]; exact pr_nz T8 T9), pb_s, if_pos rfl]
      · rw [E 1 1 (by omega) (by omega), hd17]; exact pn_e ⟨rfl, rfl⟩
      · rw [fr3 5 (by omega)]; exact S6
      · rw [T4, E 3 4 (by omega) (by omega), hd17, pn_o (by omega)]; exact T2
      · rw [T5, E 3 5 (by omega) (by omega), hd17, pn_o (by omega)]; exact T3
  · obtain ⟨d38, A1, A2⟩ := pt_take (a := 4) (b := 24) (Or.inl (by omega)) d17
    obtain ⟨d43, hd43⟩ : ∃ x, x = ya_sI d38 0 9 0 := ⟨_, rfl⟩
    have LF' : pr_LF d1 d' := by
      obtain ⟨r2, d2, e2, e5, S1, -, S3, -⟩ := run d t3 (fun j hj => (t4 j hj).2.2)
      rw [R1] at S1
      cases S1
      exact S3.1
    have F43 : ∀ a z, (a < 24 ∨ 42 ≤ a) → (a ≠ 0 ∨ z ≠ 9) → (a ≠ 1 ∨ z ≠ 1) → d43.1 a z = d'.1 a z := fun a z q1 q2 q3 => by
      rw [hd43, pn_o q2, A2.2.1 a z q1, hd17, pn_o q3]
    have F43d : ∀ a z, (a < 4 ∨ 42 ≤ a) → (a ≠ 0 ∨ z ≠ 9) → (a ≠ 1 ∨ z ≠ 1) → (a ≠ 3 ∨ z < 3 ∨ 5 < z) → d43.1 a z = d.1 a z := fun a z q1 q2 q3 q4 => by
      rw [F43 a z (by omega) q2 q3, LF'.2 a z (by omega) q4, LF.2 a z (by omega) q4]
    obtain ⟨r2, d2, e2, e5, S1, S2, S3, S4, S5, S6⟩ := run d43 (by rw [F43d _ _ (by omega) (by omega) (by omega) (by omega)]; exact t3) (fun j hj => by rw [F43d _ _ (by omega) (by omega) (by omega) (by omega)]; exact (t4 j hj).2.2)
    rw [R1] at S1
    cases S1
    rcases S3.2 with ⟨-, j, l, y, c, nt, ns, nb, T1, T2, T3, T4, T5⟩ | ⟨z, -⟩
    · obtain ⟨⟨fr1, fr2, fr3⟩, T6, T7, -⟩ := T1
      obtain ⟨e3, K1, K2, K3, K4⟩ := pr_i3 e2
      obtain ⟨W, WC, WR⟩ := pr_ZM T5 T4
      have E : ∀ a z, a ≠ 83 → a ≠ 89 → a ≠ 84 → e3.1 a z = d43.1 a z := fun a z q1 q2 q3 => by rw [K4 a z q3, fr2 a z q1 q2, S5 a z q1 q2]
      have ED : ∀ a, 42 ≤ a → a ≠ 83 → a ≠ 89 → a ≠ 84 → e3.1 a = d.1 a := fun a q0 q1 q2 q3 => funext fun z => by rw [E a z q1 q2 q3, F43d a z (by omega) (by omega) (by omega) (by omega)]
      have E2 : e3.2 = d.2 := by rw [K2, fr1, S4, hd43, pn_sI2, A2.1, hd17, pn_sI2, LF'.1, LF.1]
      have C17 : pm_C d17 4 (pr_M d'.1 l y c nt ns nb) := pt_C_c (WC d' rfl) (fun a q1 q2 => funext fun z => by rw [hd17, pn_o (by omega)])
      have C43 : pm_C e3 24 (pr_M d'.1 l y c nt ns nb) := pt_C_c (pt_C_cp W A2 C17) (fun a q1 q2 => funext fun z => by rw [E a z (by omega) (by omega) (by omega), hd43, pn_o (by omega)])
      have R43 : pm_R e3 84 0 (pr_M d'.1 l y c nt ns nb) := WR e3 K3
      refine ⟨nI l, d43, e3, ?_, ?_, pg_mk h ⟨_, ⟨C43, R43, W⟩, Or.inl ?_⟩ ?_ ?_ ⟨?_, ?_⟩ E2 (fun a q1 q2 q3 => ED a (by omega) (by omega) (by omega) (by omega))⟩
      · have x1 : d43.1 24 0 = nI l := by
          have := C43.1
          rw [E 24 0 (by omega) (by omega) (by omega)] at this
          exact this
        rw [f_X11_market, R1, ya_b2s, pb_pI, pb_s, if_neg hr, ← hd17, A1, pb_s, pb_pI, pb_s, ← hd43, x1]
      · rw [S2]
        unfold pr_K
        rw [pr_good, if_pos T6, pb_s, if_neg pn_10, K1, T5.2.1.1]
      · rw [E 0 9 (by omega) (by omega) (by omega), hd43]; exact pn_e ⟨rfl, rfl⟩
      · rw [E 1 1 (by omega) (by omega) (by omega), hd43, pn_o (by omega), A2.2.1 _ _ (by omega), hd17]; exact pn_e ⟨rfl, rfl⟩
      · rw [K4 _ _ (by omega), fr3 5 (by omega)]; exact S6
      · rw [E 3 4 (by omega) (by omega) (by omega), F43 _ _ (by omega) (by omega) (by omega), T2, K4 _ _ (by omega), T6]
      · rw [E 3 5 (by omega) (by omega) (by omega), F43 _ _ (by omega) (by omega) (by omega), T3, K4 _ _ (by omega), T7]
    · exact absurd z hr
end
