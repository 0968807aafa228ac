/-! Market: the lines, the call -/
section
variable {n : Nat} {b : Nat → Nat} {d d' d0 e0 e e' : ya_D} {i l y c nt ns nb : Nat} {M : pm_M} {G : ya_G}
theorem pr_ZF {A A' : Nat → Nat → Int32} {g : Nat → Int32} (h : pr_Z A g l y c nt ns nb) (hA : ∀ a, 4 ≤ a → a ≤ 21 → A' a = A a) : pr_Z A' g l y c nt ns nb := by
  unfold pr_Z pr_Z1 pr_Z2 pr_Z3 pr_Z4 pr_Z6 at h ⊢
  rw [hA 4 (by omega) (by omega), hA 5 (by omega) (by omega), hA 6 (by omega) (by omega), hA 7 (by omega) (by omega), hA 8 (by omega) (by omega), hA 9 (by omega) (by omega), hA 10 (by omega) (by omega), hA 11 (by omega) (by omega), hA 12 (by omega) (by omega), hA 13 (by omega) (by omega), hA 14 (by omega) (by omega), hA 15 (by omega) (by omega), hA 16 (by omega) (by omega), hA 17 (by omega) (by omega), hA 18 (by omega) (by omega), hA 19 (by omega) (by omega), hA 20 (by omega) (by omega), hA 21 (by omega) (by omega)]
  exact h
theorem pr_ne0 {k : Nat} (h : pr_is b (pr_S n b i) (pr_E n b i) ps_market) (h1 : 1 ≤ k) (h2 : k < 8) : ¬ pr_is b (pr_S n b i) (pr_E n b i) (pr_hw k) := fun z => by
  have := pr_hw3 0 (by omega) k h2 (pr_ne h z)
  omega
/-- the first line -/
theorem pr_line0 (H : pr_L n b d e0 e i 0 y c nt ns nb) : pr_LO n b d e0 i 0 (f_X3_readLine d) (f_X12_readLine e) := by
  have H' := H
  obtain ⟨ht, hK, h4, h5, hi, htr, hr, hZ, hl2⟩ := H'
  have hZ' := hZ
  obtain ⟨⟨s0, s1, s2, s3, s4, s5⟩, ⟨r0, r1, r2, r3, r4, r5⟩, ⟨b1, b2, b3, b4, b5, b6, b7⟩, -⟩ := hZ'
  have hE := pr_E_b (b := b) hi
  obtain ⟨e1, N1, N2, N3⟩ := pr_needs htr hr (q := 8) (w := ps_market) (by decide +kernel)
  obtain ⟨e2, R1, R2, R3⟩ := pr_told htr N2 (q := 9) (lo := 4) (hi := 21) (w := ps_days) (L := 4) (H := 20) (by decide +kernel) rfl (by omega) (by omega) pr_H20
  obtain ⟨v, hv⟩ : ∃ v, v = (pr_tn n b 4 21 (pr_tw n b ps_days (pr_tw n b ps_market (.inr i)))).1 := ⟨_, rfl⟩
  rw [← hv] at R1
  obtain ⟨e3, K1, K2, K3⟩ := pr_tail (m := 0) htr (pr_rS_w (pr_rS_w R2 0 (nI v)) 5 99) (by rw [pn_o (by omega), pn_o (by omega), R3, N3]; exact r0)
  have rl : f_X12_readLine e = some e3 := by
    rw [pr_rl0 r0, N1, pb_s, R1, ya_b2s, pr_w0, pb_s, pr_w5, pb_s, K1]
  by_cases P : pr_is b (pr_S n b i) (pr_E n b i) ps_market
  · have hm : pr_tw n b ps_market (.inr i) = .inr (pr_E n b i) := if_pos P
    rw [hm] at hv K2
    have kh := pr_khK ht hK hi (k := 0) (by omega) P
    have c0 := pr_c0 hK h4 h5 hi
    obtain ⟨d1, C1, C2⟩ := pr_f0 ht c0
    have cl : f_X3_readLine d = pr_go 0 d1 := by
      rw [pr_clB kh (by omega) ⟨fun _ => rfl, fun _ => s0⟩, pr_u0 (by omega), pb_s, if_pos rfl, pr_form (q := 0) (x0 := 6) (by decide +kernel), C2, pb_s]
    have hs : ∀ Y, pr_tw n b ps_semi (pr_a0 n b (.inr (pr_E n b i))).2 = Y → pr_cS n d d1 (pr_a0 n b (.inr (pr_E n b i))).1 Y := fun Y hY => by rw [← hY]; exact C1
    have K2' : pr_rS n b e0 e3 (pr_tw n b ps_semi (pr_a0 n b (.inr (pr_E n b i))).2) := K2
    cases hX : pr_tw n b ps_semi (pr_a0 n b (.inr (pr_E n b i))).2 with
    | inl f =>
      have S := hs _ hX
      rw [hX] at K2'
      exact ⟨d1, e3, cl.trans (pr_goE S), rl, pr_cLF S.1, Or.inl ⟨f, K2', S.2.1, S.2.2.1⟩⟩
    | inr j =>
      have S := hs _ hX
      rw [hX] at K2'
      obtain ⟨v', B0, B1, B2, B8, B9⟩ := pr_b0 hX hE.2.2.2.1
      have hvv : v = v' := hv.trans (List.cons.inj (show [(pr_tn n b 4 21 (pr_tw n b ps_days (.inr (pr_E n b i)))).1] = [v'] from B0)).1
      subst hvv
      rw [B0] at S
      have SN := S.1.2.2.2.2
      obtain ⟨g, hg⟩ : ∃ g, g = ya_sI d1 4 0 (nI (0 + 1)) := ⟨_, rfl⟩
      have gF : ∀ a z, a ≠ 22 → a ≠ 23 → (a ≠ 3 ∨ z < 3 ∨ 5 < z) → (a ≠ 4 ∨ z ≠ 0) → g.1 a z = d.1 a z := fun a z q1 q2 q3 q4 => by rw [hg, pn_o q4]; exact S.1.1.2 a z q1 q2 q3
      have g0 : g.1 4 0 = nI 1 := by rw [hg]; exact pn_e ⟨rfl, rfl⟩
      have g2 : g.2 = d.2 := by rw [hg, pn_sI2]; exact S.1.1.1
      have n0 : g.1 23 0 = nI v := by rw [hg, pn_o (by omega)]; exact SN 0 (by simp)
      have w4 : g.1 3 4 = 0 := by rw [hg, pn_o (by omega)]; exact S.1.2.1
      have w5 : g.1 3 5 = -1 := by rw [hg, pn_o (by omega)]; exact S.1.2.2.1
      have w22 : g.1 22 2 = nI j := by rw [hg, pn_o (by omega)]; exact S.2.2
      have cg := pr_goK (k := 0) (l := 0) S s0
      rw [← hg, pr_o0 n0, pb_s] at cg
      rw [pr_fe, pr_fe, R3, N3] at K3
      exact ⟨_, e3, cl.trans cg, rl, ⟨g2, fun a z q1 q2 => by rw [pn_o (by omega), pn_o (by omega)]; exact gF a z (by omega) (by omega) q2 (by omega)⟩, Or.inr ⟨j, v, 99, nt, ns, nb, K2', by rw [pn_o (by omega), pn_o (by omega)]; exact w4, by rw [pn_o (by omega), pn_o (by omega)]; exact w5, by rw [pn_o (by omega), pn_o (by omega)]; exact w22, by omega, B9, pr_z0 hZ B1 (by omega) (by rw [pn_o (by omega), pn_o (by omega)]; exact g0) (by rw [pn_o (by omega)]; exact pn_e ⟨rfl, rfl⟩) (pn_e ⟨rfl, rfl⟩) (fun a k q1 q2 q3 => by rw [pn_o (by omega), pn_o (by omega)]; exact gF a k (by omega) (by omega) (by omega) (by omega)) (by rw [K3, pr_fE]) (by rw [K3, pr_fN (by omega), pr_fN (by omega), pr_fE]) (by rw [K3, pr_fN (by omega), pr_fE]; rfl) (fun k q1 q2 q3 => by rw [K3, pr_fN q1, pr_fN q3, pr_fN q2])⟩⟩
  · have hm : pr_tw n b ps_market (.inr i) = .inl (1, pr_S n b i) := if_neg P
    rw [hm] at K2
    refine pr_rfs H (f := 1) (by omega) (by omega) ?_ rl K2
    rcases Classical.em (∃ k, k < 8 ∧ pr_is b (pr_S n b i) (pr_E n b i) (pr_hw k)) with ⟨k, hk, hp⟩ | hno
    · have k0 : k ≠ 0 := fun z => P (by rw [z] at hp; exact hp)
      exact pr_clA (pr_khK ht hK hi hk hp) (Or.inr (fun z => k0 ((nI_eq (b := 0) (by omega) (by omega)).1 (z.1 s0))))
    · exact pr_clA (pr_khN ht hK hi (fun k hk z => hno ⟨k, hk, z⟩)) (Or.inl rfl)
/-- a later line that is none -/
theorem pr_lineN (H : pr_L n b d e0 e i l y c nt ns nb) (hl : l ≠ 0) (P : ∀ k, 1 ≤ k → k < 8 → ¬ pr_is b (pr_S n b i) (pr_E n b i) (pr_hw k)) : pr_LO n b d e0 i l (f_X3_readLine d) (f_X12_readLine e) := by
  have H' := H
  obtain ⟨ht, hK, h4, h5, hi, htr, hr, hZ, hl2⟩ := H'
  have hZ' := hZ
  obtain ⟨⟨s0, s1, s2, s3, s4, s5⟩, ⟨r0, r1, r2, r3, r4, r5⟩, -⟩ := hZ'
  have l0 : ¬ nI l = 0 := fun z => hl ((nI_eq (b := 0) (by omega) (by omega)).1 z)
  have l1 : ¬ e.1 89 4 = 0 := fun z => l0 (r0.symm.trans z)
  have d1 : ¬ d.1 4 0 = 0 := fun z => l0 (s0.symm.trans z)
  obtain ⟨e1, T1, T2, T3⟩ := pr_nN htr hr P
  obtain ⟨e3, K1, K2, K3⟩ := pr_tail htr T2 (by rw [T3]; exact r0)
  refine pr_rfs H (f := 1) (by omega) (by omega) ?_ (e' := e3) (by rw [pr_rl1 l1, T1, pb_s, K1]) K2
  by_cases Q : pr_is b (pr_S n b i) (pr_E n b i) ps_market
  · exact pr_clA (pr_khK ht hK hi (k := 0) (by omega) Q) (Or.inr (fun z => d1 (z.2 rfl)))
  · refine pr_clA (pr_khN ht hK hi (fun k hk z => ?_)) (Or.inl rfl)
    by_cases k0 : k = 0
    · rw [k0] at z; exact Q z
    · exact P k (by omega) hk z
theorem pr_line (H : pr_L n b d e0 e i l y c nt ns nb) : pr_LO n b d e0 i l (f_X3_readLine d) (f_X12_readLine e) := by
  have hb : nt ≤ 5 ∧ ns ≤ 5 ∧ nb ≤ 7 := by
    obtain ⟨-, -, -, -, -, -, -, hZ, -⟩ := H
    obtain ⟨-, -, ⟨b1, b2, b3, b4, b5, b6, b7⟩, -⟩ := hZ
    exact ⟨b3, b4, b5⟩
  by_cases hl : l = 0
  · subst hl; exact pr_line0 H
  · rcases Classical.em (∃ k, 1 ≤ k ∧ k < 8 ∧ pr_is b (pr_S n b i) (pr_E n b i) (pr_hw k)) with ⟨k, h1, h8, P⟩ | hno
    · obtain rfl | rfl | rfl | rfl | rfl | rfl | rfl : k = 1 ∨ k = 2 ∨ k = 3 ∨ k = 4 ∨ k = 5 ∨ k = 6 ∨ k = 7 := by omega
      · by_cases hf : nt = 5
        · exact pr_line1f H hl P hf
        · exact pr_line1 H hl P hf
      · exact pr_line2 H hl P
      · exact pr_line3 H hl P
      · by_cases hf : ns = 5
        · exact pr_line4f H hl P hf
        · exact pr_line4 H hl P hf
      · exact pr_line5 H hl P
      · by_cases hf : nb = 7
        · exact pr_line6f H hl P hf
        · exact pr_line6 H hl P hf
      · exact pr_line7 H hl P
    · exact pr_lineN H hl (fun k h1 h8 z => hno ⟨k, h1, h8, z⟩)
/-- all that class and reference come to -/
def pr_end (n : Nat) (b : Nat → Nat) (d e0 : ya_D) (r : Int32) (d' e' : ya_D) : Prop := pr_LF d d' ∧ ((r = 1 ∧ ∃ j l y c nt ns nb, pr_rS n b e0 e' (.inr j) ∧ d'.1 3 4 = 0 ∧ d'.1 3 5 = -1 ∧ l ≤ 2000 ∧ pr_Z d'.1 (e'.1 89) l y c nt ns nb) ∨ (r = 0 ∧ ∃ f, pr_rS n b e0 e' (.inl f) ∧ d'.1 3 4 = nI f.1 ∧ d'.1 3 5 = nI f.2))
theorem pr_LFt {d1 d2 d3 : ya_D} (h : pr_LF d1 d2) (h' : pr_LF d2 d3) : pr_LF d1 d3 := ⟨h'.1.trans h.1, fun a z q1 q2 => (h'.2 a z q1 q2).trans (h.2 a z q1 q2)⟩
theorem pr_loop {K : ya_D → Option (Int32 × ya_D)} (htr : pr_tr e0 n b) : ∀ m i lc l fu fu' (d e : ya_D) y c nt ns nb, n - i ≤ m → m < fu → m < fu' → lc ≤ i → l ≤ i → i ≤ n → pr_tp d n b → d.1 3 4 = 0 → d.1 3 5 = -1 → d.1 22 2 = nI i → pr_rS n b e0 e (.inr i) → pr_Z d.1 (e.1 89) l y c nt ns nb → ∃ r d' e', f_X3_readAll_L26 fu (nI lc) d = some (r, d') ∧ f_X12_market_L54 K fu' e = K e' ∧ pr_end n b d e0 r d' e'
  | m, i, lc, l, 0, fu', d, e, y, c, nt, ns, nb => fun _ h => absurd h (Nat.not_lt_zero m)
  | m, i, lc, l, fu + 1, 0, d, e, y, c, nt, ns, nb => fun _ _ h => absurd h (Nat.not_lt_zero m)
  | m, i, lc, l, fu + 1, fu' + 1, d, e, y, c, nt, ns, nb => fun hm hf hf' hlc hl hi ht h4 h5 h22 hr hZ => by
    have hn := ht.1
    have hE := pr_E_b (b := b) hi
    have hk5 := pr_kr5 (n := n) (b := b) i
    obtain ⟨d1, A1, A2, A3, A4⟩ := pr_next ht hi h22
    have k4 : pr_k n b i < 4 := by
      unfold pr_k pr_k0
      repeat' split
      all_goals omega
    have LF1 : pr_LF d d1 := ⟨A3, fun a z q1 q2 => A4 a z (by omega)⟩
    have w4 : d1.1 3 4 = 0 := by rw [A4 _ _ (by omega)]; exact h4
    have w5 : d1.1 3 5 = -1 := by rw [A4 _ _ (by omega)]; exact h5
    have Z1 : pr_Z d1.1 (e.1 89) l y c nt ns nb := pr_ZF hZ (fun a q1 q2 => funext fun z => A4 a z (by omega))
    rw [f_X3_readAll_L26, if_neg (by rw [show (2000 : Int32) = nI 2000 from rfl, pn_lt (by omega) (by omega)]; omega), A1, pb_s, A2.1, f_X12_market_L54, pr_good, if_pos hr.2.1, pb_s, if_neg pn_10, hr.2.2.2.2.2.2.1]
    by_cases c0 : pr_k n b i = 0
    · have c1 : pr_kr n b i = 0 := by unfold pr_kr; rw [c0, if_neg (by decide)]
      rw [if_pos (show nI (pr_k n b i) = 0 by rw [c0]; rfl), if_pos (show nI (pr_kr n b i) = 0 by rw [c1]; rfl)]
      exact ⟨1, d1, e, rfl, rfl, LF1, Or.inl ⟨rfl, i, l, y, c, nt, ns, nb, hr, w4, w5, by omega, Z1⟩⟩
    · have c1 : pr_kr n b i ≠ 0 := by
        unfold pr_kr
        repeat' split
        all_goals omega
      rw [if_neg (show ¬ nI (pr_k n b i) = 0 from fun z => c0 ((nI_eq (b := 0) (by omega) (by omega)).1 z)), if_neg (show ¬ nI (pr_kr n b i) = 0 from fun z => c1 ((nI_eq (b := 0) (by omega) (by omega)).1 z))]
      obtain ⟨d2, e2, B1, B2, B3, B4⟩ := pr_line (e0 := e0) ⟨pr_tp_c ht (A4 _ _ (by omega)) (fun j => A4 _ _ (by omega)), A2, w4, w5, hi, htr, hr, Z1, by omega⟩
      rw [B1, pb_s, B2, pb_s]
      rcases B4 with ⟨f, D1, D2, D3⟩ | ⟨j, y', c', nt', ns', nb', D1, D2, D3, D4, D5, D6, D7⟩
      · have hz : ¬ d2.1 3 4 = 0 := by rw [D2]; exact pr_nz D1.2.2.2.1 D1.2.2.2.2
        obtain ⟨g, rfl⟩ : ∃ g, fu' = g + 1 := ⟨fu' - 1, by have := hE.2.2.2.2 c0; omega⟩
        rw [if_neg hz, f_X12_market_L54, pr_good, if_neg (pr_bad D1), pb_s, if_pos rfl]
        exact ⟨0, d2, e2, rfl, rfl, pr_LFt LF1 B3, Or.inr ⟨rfl, f, D1, D2, D3⟩⟩
      · rw [if_pos D2, nI_1]
        have L2 := pr_LFt LF1 B3
        obtain ⟨m', rfl⟩ : ∃ m', m = m' + 1 := ⟨m - 1, by omega⟩
        obtain ⟨r, d', e', F1, F2, F3, F4⟩ := pr_loop htr m' j (lc + 1) (l + 1) fu fu' d2 e2 y' c' nt' ns' nb' (by omega) (by omega) (by omega) (by omega) (by omega) D6 (pr_tp_c ht (L2.2 _ _ (by omega) (by omega)) (fun j => L2.2 _ _ (by omega) (by omega))) D2 D3 D4 D1 D7
        exact ⟨r, d', e', F1, F2, pr_LFt L2 F3, F4⟩
/-! what is told as a market -/
def pr_M (A : Nat → Nat → Int32) (l y c nt ns nb : Nat) : pm_M
  | 0, 0 => l
  | 0, 1 => y
  | 0, 2 => c
  | 0, 3 => nt
  | 0, 4 => ns
  | 0, _ => nb
  | 1, k => (A 6 k).toNatClampNeg
  | 2, k => (A 7 k).toNatClampNeg
  | 3, k => (A 8 k).toNatClampNeg
  | 4, _ => 0
  | 5, k => (A 11 k).toNatClampNeg
  | 6, k => (A 12 k).toNatClampNeg
  | 7, k => (A 13 k).toNatClampNeg
  | 8, k => (A 14 k).toNatClampNeg
  | 9, k => (A 16 k).toNatClampNeg
  | 10, k => (A 17 k).toNatClampNeg
  | 11, k => (A 18 k).toNatClampNeg
  | 12, k => (A 19 k).toNatClampNeg
  | 13, k => (A 20 k).toNatClampNeg
  | _, k => (A 21 k).toNatClampNeg
theorem pr_cm {x : Int32} {v : Nat} (h : x = nI v) (hv : v < 2 ^ 31) : x.toNatClampNeg = v := by rw [h, nI_clamp hv]
theorem pr_cn2 {x z : Int32} {v : Nat} (h : x = nI v) (hz : z = nI v) (hv : v < 2 ^ 31) : z = nI x.toNatClampNeg := by rw [pr_cm h hv, hz]
theorem pr_ZM {A : Nat → Nat → Int32} {g : Nat → Int32} (h : pr_Z A g l y c nt ns nb) (hl : l ≤ 2000) : pm_W (pr_M A l y c nt ns nb) ∧ (∀ d : ya_D, d.1 = A → pm_C d 4 (pr_M A l y c nt ns nb)) ∧ ∀ e : ya_D, (∀ k, k < 468 → e.1 84 k = g k) → pm_R e 84 0 (pr_M A l y c nt ns nb) := by
  obtain ⟨⟨s0, s1, s2, s3, s4, s5⟩, ⟨r0, r1, r2, r3, r4, r5⟩, ⟨b1, b2, b3, b4, b5, b6, b7⟩, z1, z2, z3, z4, z5, z6⟩ := h
  refine ⟨⟨hl, b2, b1, b3, b4, b5, b6, b7, fun x hx => ?_, fun x t hx ht => ?_, fun s hs => ?_, fun s e hs he => ?_, fun u hu => ?_⟩, fun d hd => ?_, fun e he => ?_⟩
  · obtain ⟨v, q1, q2, q3⟩ := z1 x hx
    show (A 6 x).toNatClampNeg ≤ 30
    rw [pr_cm q2 (by omega)]; exact q1
  · have hy : t < y := ht
    obtain ⟨v, u, q1, q2, ⟨q3, q4⟩, ⟨q5, q6⟩, q7, q8⟩ := z2 x t hx (by omega)
    show (A 7 _).toNatClampNeg ≤ 99 ∧ (A 8 _).toNatClampNeg ≤ 99 ∧ 0 ≤ 100
    rw [pr_cm q3 (by omega), pr_cm q5 (by omega)]; exact ⟨q1, q2, by omega⟩
  · obtain ⟨t, u, a, q1, q2, q3, ⟨q4, q5⟩, ⟨q6, q7⟩, q8, q9⟩ := z3 s hs
    show (A 11 _).toNatClampNeg < nt ∧ (A 12 _).toNatClampNeg ≤ 99 ∧ (A 13 _).toNatClampNeg ≤ 99
    rw [pr_cm q4 (by omega), pr_cm q6 (by omega), pr_cm q8 (by omega)]; exact ⟨q1, q2, q3⟩
  · have hy : e < y := he
    obtain ⟨v, q1, q2, q3⟩ := z4 s e hs (by omega)
    show (A 14 _).toNatClampNeg ≤ 99
    rw [pr_cm q2 (by omega)]; exact q1
  · obtain ⟨t, w, p, f, o, s, a1, a2, a3, a4, a5, a6, a7, ⟨m1, m2⟩, ⟨m3, m4⟩, ⟨m5, m6⟩, ⟨m7, m8⟩, ⟨m9, m10⟩, m11, m12⟩ := z6 u hu
    show (A 16 _).toNatClampNeg < nt ∧ 1 ≤ (A 17 _).toNatClampNeg ∧ (A 17 _).toNatClampNeg ≤ 9 ∧ (A 18 _).toNatClampNeg ≤ 99 ∧ (A 19 _).toNatClampNeg ≤ (A 20 _).toNatClampNeg ∧ (A 20 _).toNatClampNeg < y ∧ (A 21 _).toNatClampNeg ≤ 30
    rw [pr_cm m1 (by omega), pr_cm m3 (by omega), pr_cm m5 (by omega), pr_cm m7 (by omega), pr_cm m9 (by omega), pr_cm m11 (by omega)]
    exact ⟨a1, a2, a3, a4, a5, a6, a7⟩
  · subst hd
    refine ⟨s0, s1, s2, s3, s4, s5, fun x hx => ?_, fun x t hx ht => ?_, fun s hs => ?_, fun s e hs he => ?_, fun u hu => ?_⟩
    · obtain ⟨v, q1, q2, q3⟩ := z1 x hx
      exact pr_cn2 q2 q2 (by omega)
    · have hy : t < y := ht
      obtain ⟨v, u, q1, q2, ⟨q3, q4⟩, ⟨q5, q6⟩, q7, q8⟩ := z2 x t hx (by omega)
      exact ⟨pr_cn2 q3 q3 (by omega), pr_cn2 q5 q5 (by omega), q7⟩
    · obtain ⟨t, u, a, q1, q2, q3, ⟨q4, q5⟩, ⟨q6, q7⟩, q8, q9⟩ := z3 s hs
      exact ⟨pr_cn2 q4 q4 (by omega), pr_cn2 q6 q6 (by omega), pr_cn2 q8 q8 (by omega)⟩
    · have hy : e < y := he
      obtain ⟨v, q1, q2, q3⟩ := z4 s e hs (by omega)
      exact pr_cn2 q2 q2 (by omega)
    · obtain ⟨t, w, p, f, o, s, a1, a2, a3, a4, a5, a6, a7, ⟨m1, m2⟩, ⟨m3, m4⟩, ⟨m5, m6⟩, ⟨m7, m8⟩, ⟨m9, m10⟩, m11, m12⟩ := z6 u hu
      exact ⟨pr_cn2 m1 m1 (by omega), pr_cn2 m3 m3 (by omega), pr_cn2 m5 m5 (by omega), pr_cn2 m7 m7 (by omega), pr_cn2 m9 m9 (by omega), pr_cn2 m11 m11 (by omega)⟩
  · have he' : ∀ k, k < 468 → e.1 84 (0 + k) = g k := fun k hk => by rw [Nat.zero_add]; exact he k hk
    refine ⟨(he' 4 (by omega)).trans r0, (he 0 (by omega)).trans r1, (he' 5 (by omega)).trans r2, (he' 1 (by omega)).trans r3, (he' 2 (by omega)).trans r4, (he' 3 (by omega)).trans r5, fun x hx => ?_, fun x t hx ht => ?_, fun s hs => ?_, fun s k hs hk => ?_, fun u hu => ?_⟩
    · have hx' : x < nt := hx
      obtain ⟨v, q1, q2, q3⟩ := z1 x hx
      rw [he' _ (by omega)]
      exact pr_cn2 q2 q3 (by omega)
    · have hy : t < y := ht
      have hx' : x < nt := hx
      obtain ⟨v, u, q1, q2, ⟨q3, q4⟩, ⟨q5, q6⟩, q7, q8⟩ := z2 x t hx (by omega)
      rw [he' _ (by omega), he' _ (by omega), he' _ (by omega)]
      exact ⟨pr_cn2 q3 q4 (by omega), pr_cn2 q5 q6 (by omega), q8⟩
    · have hs' : s < ns := hs
      obtain ⟨t, u, a, q1, q2, q3, ⟨q4, q5⟩, ⟨q6, q7⟩, q8, q9⟩ := z3 s hs
      rw [he' _ (by omega), he' _ (by omega), he' _ (by omega)]
      exact ⟨pr_cn2 q4 q5 (by omega), pr_cn2 q6 q7 (by omega), pr_cn2 q8 q9 (by omega)⟩
    · have hy : k < y := hk
      have hs' : s < ns := hs
      obtain ⟨v, q1, q2, q3⟩ := z4 s k hs (by omega)
      rw [he' _ (by omega)]
      exact pr_cn2 q2 q3 (by omega)
    · have hu' : u < nb := hu
      obtain ⟨t, w, p, f, o, s, a1, a2, a3, a4, a5, a6, a7, ⟨m1, m2⟩, ⟨m3, m4⟩, ⟨m5, m6⟩, ⟨m7, m8⟩, ⟨m9, m10⟩, m11, m12⟩ := z6 u hu
      rw [he' _ (by omega), he' _ (by omega), he' _ (by omega), he' _ (by omega), he' _ (by omega), he' _ (by omega)]
      exact ⟨pr_cn2 m1 m2 (by omega), pr_cn2 m3 m4 (by omega), pr_cn2 m5 m6 (by omega), pr_cn2 m7 m8 (by omega), pr_cn2 m9 m10 (by omega), pr_cn2 m11 m12 (by omega)⟩
end
