/-! Market: a line, class and reference side by side -/
theorem pr_fN {g : Nat → Int32} {k z : Nat} {v : Int32} (h : z ≠ k) : pr_f g k v z = g z := if_neg h
theorem pr_fE {g : Nat → Int32} {k : Nat} {v : Int32} : pr_f g k v k = v := if_pos rfl
def pr_LF (d d' : ya_D) : Prop := d'.2 = d.2 ∧ ∀ a z, (a < 4 ∨ 23 < a) → (a ≠ 3 ∨ z < 3 ∨ 5 < z) → d'.1 a z = d.1 a z
def pr_L (n : Nat) (b : Nat → Nat) (d e0 e : ya_D) (i l y c nt ns nb : Nat) : Prop := pr_tp d n b ∧ pr_cK n b d i ∧ d.1 3 4 = 0 ∧ d.1 3 5 = -1 ∧ i ≤ n ∧ pr_tr e0 n b ∧ pr_rS n b e0 e (.inr i) ∧ pr_Z d.1 (e.1 89) l y c nt ns nb ∧ l ≤ 2000
def pr_LO (n : Nat) (b : Nat → Nat) (d e0 : ya_D) (i l : Nat) (o1 o2 : Option ya_D) : Prop := ∃ d' e', o1 = some d' ∧ o2 = some e' ∧ pr_LF d d' ∧ ((∃ f, pr_rS n b e0 e' (.inl f) ∧ d'.1 3 4 = nI f.1 ∧ d'.1 3 5 = nI f.2) ∨ ∃ j y c nt ns nb, pr_rS n b e0 e' (.inr j) ∧ d'.1 3 4 = 0 ∧ d'.1 3 5 = -1 ∧ d'.1 22 2 = nI j ∧ i < j ∧ j ≤ n ∧ pr_Z d'.1 (e'.1 89) (l + 1) y c nt ns nb)
section
variable {n : Nat} {b : Nat → Nat} {d d0 e0 e : ya_D} {X : pr_X} {lst : List Nat} {i j l y c nt ns nb : Nat}
theorem pr_cLF (h : pr_cfr d d0) : pr_LF d d0 := ⟨h.1, fun a z h1 h2 => h.2 a z (by omega) (by omega) h2⟩
theorem pr_goE {k : Nat} {f : Nat × Nat} (h : pr_cS n d d0 lst (.inl f)) : pr_go k d0 = some d0 := by
  have hz : ¬ d0.1 3 4 = 0 := by rw [h.2.1]; exact pr_nz h.2.2.2.1 h.2.2.2.2
  unfold pr_go
  rw [if_neg hz]
theorem pr_goK {k : Nat} (h : pr_cS n d d0 lst (.inr j)) (hl : d.1 4 0 = nI l) : pr_go k d0 = (f_X3_obey (nI k) (ya_sI d0 4 0 (nI (l + 1)))).bind fun d91 => some d91 := by
  unfold pr_go
  rw [if_pos h.1.2.1, h.1.1.2 4 0 (by omega) (by omega) (by omega), hl, nI_1, pb_pI, pb_s]
theorem pr_c0 (hK : pr_cK n b d i) (h4 : d.1 3 4 = 0) (h5 : d.1 3 5 = -1) (hi : i ≤ n) : pr_cS n d (ya_sI d 3 3 0) [] (.inr (pr_E n b i)) :=
  ⟨⟨⟨rfl, fun a z a1 a2 a3 => pn_o (by omega)⟩, by rw [pn_o (by omega)]; exact h4, by rw [pn_o (by omega)]; exact h5, pn_e ⟨rfl, rfl⟩, fun j hj => absurd hj (Nat.not_lt_zero j)⟩, (pr_E_b hi).2.2.2.1, by rw [pn_o (by omega)]; exact hK.2.2.1⟩
/-- a refused line: the class's side -/
theorem pr_rfs (H : pr_L n b d e0 e i l y c nt ns nb) {f : Nat} (hf : f ≠ 0) (hf4 : f < 4) {o2 : Option ya_D} (h1 : f_X3_readLine d = (f_X3_refuse (nI f) d).bind fun d42 => some d42) {e' : ya_D} (h2 : o2 = some e') (h3 : pr_rS n b e0 e' (.inl (f, pr_S n b i))) : pr_LO n b d e0 i l (f_X3_readLine d) o2 := by
  obtain ⟨ht, hK, h4, h5, hi, -⟩ := H
  obtain ⟨d', A1, A2⟩ := pr_refuse (n := n) (l := []) (d0 := d) (d := d) ⟨rfl, fun _ _ _ _ _ => rfl⟩ hK.2.1 hf hf4
  exact ⟨d', e', by rw [h1, A1, pb_s], h2, pr_cLF A2.1, Or.inl ⟨_, h3, A2.2.1, A2.2.2.1⟩⟩
theorem pr_tailb (ht : pr_tr e0 n b) (h : pr_rS n b e0 e X) : ∃ e', pr_k45 e = some e' ∧ pr_rS n b e0 e' (pr_tw n b ps_semi X) := by
  have hv : ∀ v : Int32, ∃ m, v = nI m := fun v => ⟨v.toBitVec.toNat, by
    apply Int32.toBitVec_inj.mp
    apply BitVec.eq_of_toNat_eq
    have := v.toBitVec.isLt
    simp [nI]⟩
  obtain ⟨m, hm⟩ := hv (e.1 89 4)
  obtain ⟨e', A1, A2, A3⟩ := pr_tail ht h hm
  exact ⟨e', A1, A2⟩
/-! bounds of a line's numbers -/
theorem pr_b0 (h : pr_tw n b ps_semi (pr_a0 n b (.inr i)).2 = .inr j) (hi : i ≤ n) : ∃ v, (pr_a0 n b (.inr i)).1 = [v] ∧ 4 ≤ v ∧ v < 21 ∧ i < j ∧ j ≤ n := by
  obtain ⟨j1, g1, m1⟩ := pr_tw_g (by decide) h
  obtain ⟨j2, g2, x1, x2, m2⟩ := pr_tn_g (lo := 4) (hi := 21) (X := pr_tw n b ps_days (.inr i)) g1
  obtain ⟨j3, g3, m3⟩ := pr_tw_g (w := ps_days) (X := .inr i) (by decide) g2
  cases g3
  have := m3 hi
  have := m2 (by omega)
  have := m1 (by omega)
  exact ⟨_, rfl, x1, x2, by omega, by omega⟩
theorem pr_b1 (h : pr_tw n b ps_semi (pr_a1 n b (.inr i)).2 = .inr j) (hi : i ≤ n) : ∃ p k, (pr_a1 n b (.inr i)).1 = [p, k] ∧ p < 100 ∧ k < 31 ∧ i < j ∧ j ≤ n := by
  obtain ⟨j1, g1, m1⟩ := pr_tw_g (by decide) h
  obtain ⟨j2, g2, -, x2, m2⟩ := pr_tn_g (lo := 0) (hi := 31) (X := pr_tw n b ps_keeps (pr_tn n b 0 100 (pr_tw n b ps_price (.inr i))).2) g1
  obtain ⟨j3, g3, m3⟩ := pr_tw_g (w := ps_keeps) (by decide) g2
  obtain ⟨j4, g4, -, x4, m4⟩ := pr_tn_g (lo := 0) (hi := 100) (X := pr_tw n b ps_price (.inr i)) g3
  obtain ⟨j5, g5, m5⟩ := pr_tw_g (w := ps_price) (X := .inr i) (by decide) g4
  cases g5
  have := m5 hi
  have := m4 (by omega)
  have := m3 (by omega)
  have := m2 (by omega)
  have := m1 (by omega)
  exact ⟨_, _, rfl, x4, x2, by omega, by omega⟩
theorem pr_b2 {m : Nat} (h : pr_tw n b ps_semi (pr_a2 n b m y (.inr i)).2 = .inr j) (hi : i ≤ n) : ∃ t k v, (pr_a2 n b m y (.inr i)).1 = [t, k, v] ∧ t < m ∧ k < y ∧ v < 100 ∧ i < j ∧ j ≤ n := by
  obtain ⟨j1, g1, m1⟩ := pr_tw_g (by decide) h
  obtain ⟨j2, g2, -, x2, m2⟩ := pr_tn_g (lo := 0) (hi := 100) (X := (pr_tn n b 0 y (pr_tw n b ps_on (pr_tn n b 0 m (.inr i)).2)).2) g1
  obtain ⟨j3, g3, -, x3, m3⟩ := pr_tn_g (lo := 0) (hi := y) (X := pr_tw n b ps_on (pr_tn n b 0 m (.inr i)).2) g2
  obtain ⟨j4, g4, m4⟩ := pr_tw_g (w := ps_on) (by decide) g3
  obtain ⟨j5, g5, -, x5, m5⟩ := pr_tn_g (lo := 0) (hi := m) (X := .inr i) g4
  cases g5
  have := m5 hi
  have := m4 (by omega)
  have := m3 (by omega)
  have := m2 (by omega)
  have := m1 (by omega)
  exact ⟨_, _, _, rfl, x5, x3, x2, by omega, by omega⟩
theorem pr_b4 {m : Nat} (h : pr_tw n b ps_semi (pr_a4 n b m (.inr i)).2 = .inr j) (hi : i ≤ n) : ∃ t u v, (pr_a4 n b m (.inr i)).1 = [t, u, v] ∧ t < m ∧ u < 100 ∧ v < 100 ∧ i < j ∧ j ≤ n := by
  obtain ⟨j1, g1, m1⟩ := pr_tw_g (by decide) h
  obtain ⟨j2, g2, -, x2, m2⟩ := pr_tn_g (lo := 0) (hi := 100) (X := pr_tw n b ps_asks (pr_tn n b 0 100 (pr_tw n b ps_has (pr_tn n b 0 m (.inr i)).2)).2) g1
  obtain ⟨j3, g3, m3⟩ := pr_tw_g (w := ps_asks) (by decide) g2
  obtain ⟨j4, g4, -, x4, m4⟩ := pr_tn_g (lo := 0) (hi := 100) (X := pr_tw n b ps_has (pr_tn n b 0 m (.inr i)).2) g3
  obtain ⟨j5, g5, m5⟩ := pr_tw_g (w := ps_has) (by decide) g4
  obtain ⟨j6, g6, -, x6, m6⟩ := pr_tn_g (lo := 0) (hi := m) (X := .inr i) g5
  cases g6
  have := m6 hi
  have := m5 (by omega)
  have := m4 (by omega)
  have := m3 (by omega)
  have := m2 (by omega)
  have := m1 (by omega)
  exact ⟨_, _, _, rfl, x6, x4, x2, by omega, by omega⟩
theorem pr_b6 {m : Nat} (h : pr_tw n b ps_semi (pr_a6 n b m y (.inr i)).2 = .inr j) (hi : i ≤ n) : ∃ t w p f o s, (pr_a6 n b m y (.inr i)).1 = [t, w, p, f, o, s] ∧ t < m ∧ 1 ≤ w ∧ w < 10 ∧ p < 100 ∧ f ≤ o ∧ o < y ∧ s < 31 ∧ i < j ∧ j ≤ n := by
  obtain ⟨T, eT⟩ : ∃ T, T = pr_tn n b 0 m (.inr i) := ⟨_, rfl⟩
  obtain ⟨W, eW⟩ : ∃ W, W = pr_tn n b 1 10 (pr_tw n b ps_wants T.2) := ⟨_, rfl⟩
  obtain ⟨P, eP⟩ : ∃ P, P = pr_tn n b 0 100 (pr_tw n b ps_pays W.2) := ⟨_, rfl⟩
  obtain ⟨F, eF⟩ : ∃ F, F = pr_tn n b 0 y (pr_tw n b ps_from P.2) := ⟨_, rfl⟩
  obtain ⟨O, eO⟩ : ∃ O, O = pr_tn n b F.1 y (pr_tw n b ps_to F.2) := ⟨_, rfl⟩
  obtain ⟨Z, eZ⟩ : ∃ Z, Z = pr_tn n b 0 31 (pr_tw n b ps_stores O.2) := ⟨_, rfl⟩
  have ea : pr_a6 n b m y (.inr i) = ([T.1, W.1, P.1, F.1, O.1, Z.1], Z.2) := by
    rw [eZ, eO, eF, eP, eW, eT]; rfl
  rw [ea] at h ⊢
  obtain ⟨j1, g1, m1⟩ := pr_tw_g (by decide) h
  dsimp only at g1
  rw [eZ] at g1
  obtain ⟨j2, g2, -, x2, m2⟩ := pr_tn_g g1
  obtain ⟨j3, g3, m3⟩ := pr_tw_g (w := ps_stores) (by decide) g2
  rw [eO] at g3
  obtain ⟨j4, g4, x4, x4', m4⟩ := pr_tn_g g3
  obtain ⟨j5, g5, m5⟩ := pr_tw_g (w := ps_to) (by decide) g4
  rw [eF] at g5
  obtain ⟨j6, g6, -, x6, m6⟩ := pr_tn_g g5
  obtain ⟨j7, g7, m7⟩ := pr_tw_g (w := ps_from) (by decide) g6
  rw [eP] at g7
  obtain ⟨j8, g8, -, x8, m8⟩ := pr_tn_g g7
  obtain ⟨j9, g9, m9⟩ := pr_tw_g (w := ps_pays) (by decide) g8
  rw [eW] at g9
  obtain ⟨j10, g10, x10, x10', m10⟩ := pr_tn_g g9
  obtain ⟨j11, g11, m11⟩ := pr_tw_g (w := ps_wants) (by decide) g10
  rw [eT] at g11
  obtain ⟨j12, g12, -, x12, m12⟩ := pr_tn_g g11
  cases g12
  rw [← eZ] at x2
  rw [← eO] at x4 x4'
  rw [← eP] at x8
  rw [← eW] at x10 x10'
  rw [← eT] at x12
  have := m12 hi
  have := m11 (by omega)
  have := m10 (by omega)
  have := m9 (by omega)
  have := m8 (by omega)
  have := m7 (by omega)
  have := m6 (by omega)
  have := m5 (by omega)
  have := m4 (by omega)
  have := m3 (by omega)
  have := m2 (by omega)
  have := m1 (by omega)
  exact ⟨_, _, _, _, _, _, rfl, x12, x10, x10', x8, x4, x4', x2, by omega, by omega⟩
theorem pr_b7 (h : pr_tw n b ps_semi (pr_a7 n b (.inr i)).2 = .inr j) (hi : i ≤ n) : ∃ v, (pr_a7 n b (.inr i)).1 = [v] ∧ v < 100 ∧ i < j ∧ j ≤ n := by
  obtain ⟨j1, g1, m1⟩ := pr_tw_g (by decide) h
  obtain ⟨j2, g2, -, x2, m2⟩ := pr_tn_g (lo := 0) (hi := 100) (X := .inr i) g1
  cases g2
  have := m2 hi
  have := m1 (by omega)
  exact ⟨_, rfl, x2, by omega, by omega⟩
/-! is there room -/
theorem pr_u1 (h : d.1 5 0 = nI nt) (hn : nt ≤ 5) : f_X3_isFull (nI 1) d = some (if nt < 5 then 0 else 1) := by
  rw [f_X3_isFull, if_pos (show nI 1 = 1 from rfl), h]
  have q : nI nt < 5 ↔ nt < 5 := nI_ltI (b := 5) (by omega) (by omega)
  by_cases z : nt < 5
  · rw [if_pos (q.2 z), if_pos z]
  · rw [if_neg (fun w => z (q.1 w)), if_neg z]
theorem pr_u4 (h : d.1 10 0 = nI ns) (hn : ns ≤ 5) : f_X3_isFull (nI 4) d = some (if ns < 5 then 0 else 1) := by
  rw [f_X3_isFull, if_neg (show ¬ nI 4 = 1 by decide), if_pos (show nI 4 = 4 from rfl), h]
  have q : nI ns < 5 ↔ ns < 5 := nI_ltI (b := 5) (by omega) (by omega)
  by_cases z : ns < 5
  · rw [if_pos (q.2 z), if_pos z]
  · rw [if_neg (fun w => z (q.1 w)), if_neg z]
theorem pr_u6 (h : d.1 15 0 = nI nb) (hn : nb ≤ 7) : f_X3_isFull (nI 6) d = some (if nb < 7 then 0 else 1) := by
  rw [f_X3_isFull, if_neg (show ¬ nI 6 = 1 by decide), if_neg (show ¬ nI 6 = 4 by decide), if_pos (show nI 6 = 6 from rfl), h]
  have q : nI nb < 7 ↔ nb < 7 := nI_ltI (b := 7) (by omega) (by omega)
  by_cases z : nb < 7
  · rw [if_pos (q.2 z), if_pos z]
  · rw [if_neg (fun w => z (q.1 w)), if_neg z]
theorem pr_u0 {k : Nat} (hk : k = 0 ∨ k = 2 ∨ k = 3 ∨ k = 5 ∨ k = 7) : f_X3_isFull (nI k) d = some 0 := by
  rcases hk with rfl | rfl | rfl | rfl | rfl
  · rfl
  · rfl
  · rfl
  · rfl
  · rfl
/-- thing -/
theorem pr_line1 (H : pr_L n b d e0 e i l y c nt ns nb) (hl : l ≠ 0) (P : pr_is b (pr_S n b i) (pr_E n b i) ps_thing) (hf : nt ≠ 5) : pr_LO n b d e0 i l (f_X3_readLine d) (f_X12_readLine e) := by
  obtain ⟨ht, hK, h4, h5, hi, htr, hr, hZ, hl2⟩ := H
  have hZ' := hZ
  obtain ⟨⟨s0, s1, s2, s3, s4, s5⟩, ⟨r0, r1, r2, r3, r4, r5⟩, ⟨b1, b2, b3, b4, b5, b6, b7⟩, -⟩ := hZ'
  have hE := pr_E_b (b := b) hi
  have l0 : ¬ nI l = 0 := fun z => hl ((nI_eq (b := 0) (by omega) (by omega)).1 z)
  have kh := pr_khK ht hK hi (k := 1) (by omega) P
  have c0 := pr_c0 hK h4 h5 hi
  obtain ⟨d1, C1, C2⟩ := pr_f1 ht c0
  have cl : f_X3_readLine d = pr_go 1 d1 := by
    rw [pr_clB kh (by omega) ⟨fun z => absurd (s0.symm.trans z) l0, fun z => absurd z (by omega)⟩, pr_u1 s3 b3, if_pos (show nt < 5 by omega), pb_s, if_pos rfl, pr_form (q := 1) (x0 := 5) (by decide +kernel), C2, pb_s]
  obtain ⟨e1, T1, T2, T3⟩ := pr_n11 htr hr r3 (by omega) hf P
  have l1 : ¬ e.1 89 4 = 0 := fun z => l0 (r0.symm.trans z)
  obtain ⟨e2, R1, R2, p, q, R3, R4, R5, R6, R7⟩ := pr_r1s htr T1 (nt := nt) (by rw [T2]; exact r3) (by omega)
  have e24 : e2.1 89 4 = nI l := by rw [R7 4 (by omega) (by omega) (by omega) (by omega) (by omega), T2]; exact r0
  obtain ⟨e3, K1, K2, K3⟩ := pr_tail htr R2 e24
  have rl : f_X12_readLine e = some e3 := by
    rw [pr_rl1 l1, T3, R1, pb_s, pb_s, K1]
  have hs : ∀ Y, pr_tw n b ps_semi (pr_a1 n b (.inr (pr_E n b i))).2 = Y → pr_cS n d d1 (pr_a1 n b (.inr (pr_E n b i))).1 Y := fun Y hY => by rw [← hY]; exact C1
  cases hX : pr_tw n b ps_semi (pr_a1 n b (.inr (pr_E n b i))).2 with
  | inl f =>
    have S := hs _ hX
    have K2 : pr_rS n b e0 e3 (.inl f) := hX ▸ K2
    exact ⟨d1, e3, cl.trans (pr_goE S), rl, pr_cLF S.1, Or.inl ⟨f, K2, S.2.1, S.2.2.1⟩⟩
  | inr j =>
    have S := hs _ hX
    have K2 : pr_rS n b e0 e3 (.inr j) := hX ▸ K2
    obtain ⟨p', q', B0, B1, B2, B8, B9⟩ := pr_b1 hX hE.2.2.2.1
    rw [R3] at B0
    cases B0
    have hN : (pr_a1 n b (.inr (pr_E n b i))).1 = [p, q] := R3
    rw [hN] at S
    have SN := S.1.2.2.2.2
    obtain ⟨g, hg⟩ : ∃ g, g = ya_sI d1 4 0 (nI (l + 1)) := ⟨_, rfl⟩
    have gF : ∀ a z, a ≠ 22 → a ≠ 23 → (a ≠ 3 ∨ z < 3 ∨ 5 < z) → (a ≠ 4 ∨ z ≠ 0) → g.1 a z = d.1 a z := fun a z q1 q2 q3 q4 => by rw [hg, pn_o q4]; exact S.1.1.2 a z q1 q2 q3
    have g0 : g.1 4 0 = nI (l + 1) := by rw [hg]; exact pn_e ⟨rfl, rfl⟩
    have g2 : g.2 = d.2 := by rw [hg, pn_sI2]; exact S.1.1.1
    have n0 : g.1 23 0 = nI p := by rw [hg, pn_o (by omega)]; exact SN 0 (by simp)
    have n1 : g.1 23 1 = nI q := by rw [hg, pn_o (by omega)]; exact SN 1 (by simp)
    have w4 : g.1 3 4 = 0 := by rw [hg, pn_o (by omega)]; exact S.1.2.1
    have w5 : g.1 3 5 = -1 := by rw [hg, pn_o (by omega)]; exact S.1.2.2.1
    have w22 : g.1 22 2 = nI j := by rw [hg, pn_o (by omega)]; exact S.2.2
    have cg := pr_goK (k := 1) S s0
    rw [← hg] at cg
    obtain ⟨d2, O1, O2, O3, O4, O5, O6⟩ := pr_o1 n0 n1 ((gF 5 0 (by omega) (by omega) (by omega) (by omega)).trans s3) (by omega)
    rw [O1, pb_s] at cg
    exact ⟨d2, e3, cl.trans cg, rl, ⟨O2.trans g2, fun a z q1 q2 => by rw [O6 a z (by omega)]; exact gF a z (by omega) (by omega) q2 (by omega)⟩, Or.inr ⟨j, y, c, nt + 1, ns, nb, K2, by rw [O6 _ _ (by omega)]; exact w4, by rw [O6 _ _ (by omega)]; exact w5, by rw [O6 _ _ (by omega)]; exact w22, by omega, B9, pr_z1 hZ hl (by omega) (p := p) (k := q) (by omega) (by omega) (by rw [O6 _ _ (by omega)]; exact g0) O3 O4 O5 (fun a k q1 q2 q3 => by rw [O6 a k (by omega)]; exact gF a k (by omega) (by omega) (by omega) (by omega)) (by rw [K3, pr_fE]) (by rw [K3, pr_fN (by omega), R4]) (by rw [K3, pr_fN (by omega), R5]) (fun t ht => by rw [K3, pr_fN (by omega), pr_fN (by omega), pr_fN (by omega)]; exact R6 t ht) (fun z q1 q2 => by rw [K3, pr_fN (by omega), R7 z (by omega) (by omega) (by omega) (by omega) (by omega), T2])⟩⟩
theorem pr_line1f (H : pr_L n b d e0 e i l y c nt ns nb) (hl : l ≠ 0) (P : pr_is b (pr_S n b i) (pr_E n b i) ps_thing) (hf : nt = 5) : pr_LO n b d e0 i l (f_X3_readLine d) (f_X12_readLine e) := by
  have H' := H
  obtain ⟨ht, hK, h4, h5, hi, htr, hr, hZ, hl2⟩ := H'
  have hZ' := hZ
  obtain ⟨⟨s0, s1, s2, s3, s4, s5⟩, ⟨r0, r1, r2, r3, r4, r5⟩, ⟨b1, b2, b3, b4, b5, b6, b7⟩, -⟩ := hZ'
  have l0 : ¬ nI l = 0 := fun z => hl ((nI_eq (b := 0) (by omega) (by omega)).1 z)
  have l1 : ¬ e.1 89 4 = 0 := fun z => l0 (r0.symm.trans z)
  have kh := pr_khK ht hK hi (k := 1) (by omega) P
  obtain ⟨e1, T1, T2, T3⟩ := pr_n11f htr hr r3 (by omega) hf P
  obtain ⟨e3, K1, K2, K3⟩ := pr_tail htr T2 (by rw [T3]; exact r0)
  refine pr_rfs H (f := 3) (by omega) (by omega) ?_ (e' := e3) (by rw [pr_rl1 l1, T1, pb_s, K1]) K2
  rw [pr_clB kh (by omega) ⟨fun z => absurd (s0.symm.trans z) l0, fun z => absurd z (by omega)⟩, pr_u1 s3 b3, if_neg (show ¬ nt < 5 by omega), pb_s, if_neg pn_10]
  rfl
/-- was -/
theorem pr_line2 (H : pr_L n b d e0 e i l y c nt ns nb) (hl : l ≠ 0) (P : pr_is b (pr_S n b i) (pr_E n b i) ps_was) : pr_LO n b d e0 i l (f_X3_readLine d) (f_X12_readLine e) := by
  obtain ⟨ht, hK, h4, h5, hi, htr, hr, hZ, hl2⟩ := H
  have hZ' := hZ
  obtain ⟨⟨s0, s1, s2, s3, s4, s5⟩, ⟨r0, r1, r2, r3, r4, r5⟩, ⟨b1, b2, b3, b4, b5, b6, b7⟩, -⟩ := hZ'
  have hE := pr_E_b (b := b) hi
  have l0 : ¬ nI l = 0 := fun z => hl ((nI_eq (b := 0) (by omega) (by omega)).1 z)
  have kh := pr_khK ht hK hi (k := 2) (by omega) P
  have c0 := pr_c0 hK h4 h5 hi
  obtain ⟨d1, C1, C2⟩ := pr_f2 ht c0 s3 b3 s1 b2
  have cl : f_X3_readLine d = pr_go 2 d1 := by
    rw [pr_clB kh (by omega) ⟨fun z => absurd (s0.symm.trans z) l0, fun z => absurd z (by omega)⟩, pr_u0 (by omega), pb_s, if_pos rfl, pr_form (q := 2) (x0 := 3) (by decide +kernel), C2, pb_s]
  obtain ⟨e1, T1, T2, T3⟩ := pr_n12 htr hr P
  have l1 : ¬ e.1 89 4 = 0 := fun z => l0 (r0.symm.trans z)
  obtain ⟨e2, R1, R2, R3⟩ := pr_r2s htr T1 (m := nt) (y := y) (r := 11) (by omega) (by rw [T2]; exact r1) b2 (by omega)
  have hm : e1.1 89 1 = nI nt := by rw [T2]; exact r3
  have rl0 : f_X12_readLine e = pr_k45 e2 := by
    rw [pr_rl1 l1, T3, pr_d1, pb_s, hm, show (11 : Int32) = nI 11 from rfl, R1, pb_s, pb_s]
  have tl : ∀ m, e2.1 89 4 = nI m → ∃ e3, pr_k45 e2 = some e3 ∧ pr_rS n b e0 e3 (pr_tw n b ps_semi (pr_a2 n b nt y (.inr (pr_E n b i))).2) ∧ e3.1 89 = pr_f (e2.1 89) 4 (nI (m + 1)) := fun m hm => pr_tail htr R2 hm
  have hs : ∀ Y, pr_tw n b ps_semi (pr_a2 n b nt y (.inr (pr_E n b i))).2 = Y → pr_cS n d d1 (pr_a2 n b nt y (.inr (pr_E n b i))).1 Y := fun Y hY => by rw [← hY]; exact C1
  cases hX : pr_tw n b ps_semi (pr_a2 n b nt y (.inr (pr_E n b i))).2 with
  | inl f =>
    have S := hs _ hX
    obtain ⟨e3, K1, K2⟩ := pr_tailb htr R2
    rw [hX] at K2
    exact ⟨d1, e3, cl.trans (pr_goE S), rl0.trans K1, pr_cLF S.1, Or.inl ⟨f, K2, S.2.1, S.2.2.1⟩⟩
  | inr j =>
    have S := hs _ hX
    obtain ⟨t, k, v, B0, B1, B2, B3, B8, B9⟩ := pr_b2 hX hE.2.2.2.1
    have hN : (pr_a2 n b nt y (.inr (pr_E n b i))).1 = [t, k, v] := B0
    obtain ⟨j1, g1, -⟩ := pr_tw_g (by decide) hX
    obtain ⟨t2, k2, v2, B0', R4⟩ := R3 _ g1
    rw [B0] at B0'
    cases B0'
    rw [T2] at R4
    have e24 : e2.1 89 4 = nI l := by rw [R4, pr_fN (by omega)]; exact r0
    obtain ⟨e3, K1, K2, K3⟩ := tl l e24
    rw [hX] at K2
    have rl : f_X12_readLine e = some e3 := rl0.trans K1
    rw [hN] at S
    have SN := S.1.2.2.2.2
    obtain ⟨g, hg⟩ : ∃ g, g = ya_sI d1 4 0 (nI (l + 1)) := ⟨_, rfl⟩
    have gF : ∀ a z, a ≠ 22 → a ≠ 23 → (a ≠ 3 ∨ z < 3 ∨ 5 < z) → (a ≠ 4 ∨ z ≠ 0) → g.1 a z = d.1 a z := fun a z q1 q2 q3 q4 => by rw [hg, pn_o q4]; exact S.1.1.2 a z q1 q2 q3
    have g0 : g.1 4 0 = nI (l + 1) := by rw [hg]; exact pn_e ⟨rfl, rfl⟩
    have g2 : g.2 = d.2 := by rw [hg, pn_sI2]; exact S.1.1.1
    have n0 : g.1 23 0 = nI t := by rw [hg, pn_o (by omega)]; exact SN 0 (by simp)
    have n1 : g.1 23 1 = nI k := by rw [hg, pn_o (by omega)]; exact SN 1 (by simp)
    have n2 : g.1 23 2 = nI v := by rw [hg, pn_o (by omega)]; exact SN 2 (by simp)
    have w4 : g.1 3 4 = 0 := by rw [hg, pn_o (by omega)]; exact S.1.2.1
    have w5 : g.1 3 5 = -1 := by rw [hg, pn_o (by omega)]; exact S.1.2.2.1
    have w22 : g.1 22 2 = nI j := by rw [hg, pn_o (by omega)]; exact S.2.2
    have cg := pr_goK (k := 2) S s0
    rw [← hg] at cg
    rw [pr_o2 n0 n1 n2 (by omega) (by omega), pb_s] at cg
    exact ⟨_, e3, cl.trans cg, rl, ⟨g2, fun a z q1 q2 => by rw [pn_o (by omega)]; exact gF a z (by omega) (by omega) q2 (by omega)⟩, Or.inr ⟨j, y, c, nt, ns, nb, K2, by rw [pn_o (by omega)]; exact w4, by rw [pn_o (by omega)]; exact w5, by rw [pn_o (by omega)]; exact w22, by omega, B9, pr_z2 hZ hl B1 B2 (by omega) (by rw [pn_o (by omega)]; exact g0) (pn_e ⟨rfl, rfl⟩) (fun a k q1 q2 q3 => by rw [pn_o (by omega)]; exact gF a k (by omega) (by omega) (by omega) (by omega)) (by rw [K3, pr_fE]) (by rw [K3, pr_fN (by omega), R4, pr_fE]) (fun k q1 q2 => by rw [K3, pr_fN q1, R4, pr_fN q2])⟩⟩
/-- old -/
theorem pr_line3 (H : pr_L n b d e0 e i l y c nt ns nb) (hl : l ≠ 0) (P : pr_is b (pr_S n b i) (pr_E n b i) ps_old) : pr_LO n b d e0 i l (f_X3_readLine d) (f_X12_readLine e) := by
  obtain ⟨ht, hK, h4, h5, hi, htr, hr, hZ, hl2⟩ := H
  have hZ' := hZ
  obtain ⟨⟨s0, s1, s2, s3, s4, s5⟩, ⟨r0, r1, r2, r3, r4, r5⟩, ⟨b1, b2, b3, b4, b5, b6, b7⟩, -⟩ := hZ'
  have hE := pr_E_b (b := b) hi
  have l0 : ¬ nI l = 0 := fun z => hl ((nI_eq (b := 0) (by omega) (by omega)).1 z)
  have kh := pr_khK ht hK hi (k := 3) (by omega) P
  have c0 := pr_c0 hK h4 h5 hi
  obtain ⟨d1, C1, C2⟩ := pr_f3 ht c0 s3 b3 s1 b2
  have cl : f_X3_readLine d = pr_go 3 d1 := by
    rw [pr_clB kh (by omega) ⟨fun z => absurd (s0.symm.trans z) l0, fun z => absurd z (by omega)⟩, pr_u0 (by omega), pb_s, if_pos rfl, pr_form (q := 3) (x0 := 3) (by decide +kernel), C2, pb_s]
  obtain ⟨e1, T1, T2, T3⟩ := pr_n13 htr hr P
  have l1 : ¬ e.1 89 4 = 0 := fun z => l0 (r0.symm.trans z)
  obtain ⟨e2, R1, R2, R3⟩ := pr_r2s htr T1 (m := nt) (y := y) (r := 111) (by omega) (by rw [T2]; exact r1) b2 (by omega)
  have hm : e1.1 89 1 = nI nt := by rw [T2]; exact r3
  have rl0 : f_X12_readLine e = pr_k45 e2 := by
    rw [pr_rl1 l1, T3, pr_d1, pb_s, hm, show (111 : Int32) = nI 111 from rfl, R1, pb_s, pb_s]
  have tl : ∀ m, e2.1 89 4 = nI m → ∃ e3, pr_k45 e2 = some e3 ∧ pr_rS n b e0 e3 (pr_tw n b ps_semi (pr_a2 n b nt y (.inr (pr_E n b i))).2) ∧ e3.1 89 = pr_f (e2.1 89) 4 (nI (m + 1)) := fun m hm => pr_tail htr R2 hm
  have hs : ∀ Y, pr_tw n b ps_semi (pr_a2 n b nt y (.inr (pr_E n b i))).2 = Y → pr_cS n d d1 (pr_a2 n b nt y (.inr (pr_E n b i))).1 Y := fun Y hY => by rw [← hY]; exact C1
  cases hX : pr_tw n b ps_semi (pr_a2 n b nt y (.inr (pr_E n b i))).2 with
  | inl f =>
    have S := hs _ hX
    obtain ⟨e3, K1, K2⟩ := pr_tailb htr R2
    rw [hX] at K2
    exact ⟨d1, e3, cl.trans (pr_goE S), rl0.trans K1, pr_cLF S.1, Or.inl ⟨f, K2, S.2.1, S.2.2.1⟩⟩
  | inr j =>
    have S := hs _ hX
    obtain ⟨t, k, v, B0, B1, B2, B3, B8, B9⟩ := pr_b2 hX hE.2.2.2.1
    have hN : (pr_a2 n b nt y (.inr (pr_E n b i))).1 = [t, k, v] := B0
    obtain ⟨j1, g1, -⟩ := pr_tw_g (by decide) hX
    obtain ⟨t2, k2, v2, B0', R4⟩ := R3 _ g1
    rw [B0] at B0'
    cases B0'
    rw [T2] at R4
    have e24 : e2.1 89 4 = nI l := by rw [R4, pr_fN (by omega)]; exact r0
    obtain ⟨e3, K1, K2, K3⟩ := tl l e24
    rw [hX] at K2
    have rl : f_X12_readLine e = some e3 := rl0.trans K1
    rw [hN] at S
    have SN := S.1.2.2.2.2
    obtain ⟨g, hg⟩ : ∃ g, g = ya_sI d1 4 0 (nI (l + 1)) := ⟨_, rfl⟩
    have gF : ∀ a z, a ≠ 22 → a ≠ 23 → (a ≠ 3 ∨ z < 3 ∨ 5 < z) → (a ≠ 4 ∨ z ≠ 0) → g.1 a z = d.1 a z := fun a z q1 q2 q3 q4 => by rw [hg, pn_o q4]; exact S.1.1.2 a z q1 q2 q3
    have g0 : g.1 4 0 = nI (l + 1) := by rw [hg]; exact pn_e ⟨rfl, rfl⟩
    have g2 : g.2 = d.2 := by rw [hg, pn_sI2]; exact S.1.1.1
    have n0 : g.1 23 0 = nI t := by rw [hg, pn_o (by omega)]; exact SN 0 (by simp)
    have n1 : g.1 23 1 = nI k := by rw [hg, pn_o (by omega)]; exact SN 1 (by simp)
    have n2 : g.1 23 2 = nI v := by rw [hg, pn_o (by omega)]; exact SN 2 (by simp)
    have w4 : g.1 3 4 = 0 := by rw [hg, pn_o (by omega)]; exact S.1.2.1
    have w5 : g.1 3 5 = -1 := by rw [hg, pn_o (by omega)]; exact S.1.2.2.1
    have w22 : g.1 22 2 = nI j := by rw [hg, pn_o (by omega)]; exact S.2.2
    have cg := pr_goK (k := 3) S s0
    rw [← hg] at cg
    rw [pr_o3 n0 n1 n2 (by omega) (by omega), pb_s] at cg
    exact ⟨_, e3, cl.trans cg, rl, ⟨g2, fun a z q1 q2 => by rw [pn_o (by omega)]; exact gF a z (by omega) (by omega) q2 (by omega)⟩, Or.inr ⟨j, y, c, nt, ns, nb, K2, by rw [pn_o (by omega)]; exact w4, by rw [pn_o (by omega)]; exact w5, by rw [pn_o (by omega)]; exact w22, by omega, B9, pr_z3 hZ hl B1 B2 (by omega) (by rw [pn_o (by omega)]; exact g0) (pn_e ⟨rfl, rfl⟩) (fun a k q1 q2 q3 => by rw [pn_o (by omega)]; exact gF a k (by omega) (by omega) (by omega) (by omega)) (by rw [K3, pr_fE]) (by rw [K3, pr_fN (by omega), R4, pr_fE]) (fun k q1 q2 => by rw [K3, pr_fN q1, R4, pr_fN q2])⟩⟩
/-- seller -/
theorem pr_line4 (H : pr_L n b d e0 e i l y c nt ns nb) (hl : l ≠ 0) (P : pr_is b (pr_S n b i) (pr_E n b i) ps_seller) (hf : ns ≠ 5) : pr_LO n b d e0 i l (f_X3_readLine d) (f_X12_readLine e) := by
  obtain ⟨ht, hK, h4, h5, hi, htr, hr, hZ, hl2⟩ := H
  have hZ' := hZ
  obtain ⟨⟨s0, s1, s2, s3, s4, s5⟩, ⟨r0, r1, r2, r3, r4, r5⟩, ⟨b1, b2, b3, b4, b5, b6, b7⟩, -⟩ := hZ'
  have hE := pr_E_b (b := b) hi
  have l0 : ¬ nI l = 0 := fun z => hl ((nI_eq (b := 0) (by omega) (by omega)).1 z)
  have kh := pr_khK ht hK hi (k := 4) (by omega) P
  have c0 := pr_c0 hK h4 h5 hi
  obtain ⟨d1, C1, C2⟩ := pr_f4 ht c0 s3 b3
  have cl : f_X3_readLine d = pr_go 4 d1 := by
    rw [pr_clB kh (by omega) ⟨fun z => absurd (s0.symm.trans z) l0, fun z => absurd z (by omega)⟩, pr_u4 s4 b4, if_pos (show ns < 5 by omega), pb_s, if_pos rfl, pr_form (q := 4) (x0 := 6) (by decide +kernel), C2, pb_s]
  obtain ⟨e1, T1, T2, T3⟩ := pr_n14 htr hr r4 (by omega) hf P
  have l1 : ¬ e.1 89 4 = 0 := fun z => l0 (r0.symm.trans z)
  obtain ⟨e2, R1, R2, t, u, v, R3, R4⟩ := pr_r4s htr T1 (nt := nt) (ns := ns) (by rw [T2]; exact r3) b3 (by rw [T2]; exact r4) (by omega)
  rw [T2] at R4
  have e24 : e2.1 89 4 = nI l := by rw [R4, pr_fN (by omega), pr_fN (by omega), pr_fN (by omega), pr_fN (by omega)]; exact r0
  obtain ⟨e3, K1, K2, K3⟩ := pr_tail htr R2 e24
  have rl : f_X12_readLine e = some e3 := by
    rw [pr_rl1 l1, T3, R1, pb_s, pb_s, K1]
  have hs : ∀ Y, pr_tw n b ps_semi (pr_a4 n b nt (.inr (pr_E n b i))).2 = Y → pr_cS n d d1 (pr_a4 n b nt (.inr (pr_E n b i))).1 Y := fun Y hY => by rw [← hY]; exact C1
  cases hX : pr_tw n b ps_semi (pr_a4 n b nt (.inr (pr_E n b i))).2 with
  | inl f =>
    have S := hs _ hX
    have K2 : pr_rS n b e0 e3 (.inl f) := hX ▸ K2
    exact ⟨d1, e3, cl.trans (pr_goE S), rl, pr_cLF S.1, Or.inl ⟨f, K2, S.2.1, S.2.2.1⟩⟩
  | inr j =>
    have S := hs _ hX
    have K2 : pr_rS n b e0 e3 (.inr j) := hX ▸ K2
    obtain ⟨t', u', v', B0, B1, B2, B3, B8, B9⟩ := pr_b4 hX hE.2.2.2.1
    rw [R3] at B0
    cases B0
    have hN : (pr_a4 n b nt (.inr (pr_E n b i))).1 = [t, u, v] := R3
    rw [hN] at S
    have SN := S.1.2.2.2.2
    obtain ⟨g, hg⟩ : ∃ g, g = ya_sI d1 4 0 (nI (l + 1)) := ⟨_, rfl⟩
    have gF : ∀ a z, a ≠ 22 → a ≠ 23 → (a ≠ 3 ∨ z < 3 ∨ 5 < z) → (a ≠ 4 ∨ z ≠ 0) → g.1 a z = d.1 a z := fun a z q1 q2 q3 q4 => by rw [hg, pn_o q4]; exact S.1.1.2 a z q1 q2 q3
    have g0 : g.1 4 0 = nI (l + 1) := by rw [hg]; exact pn_e ⟨rfl, rfl⟩
    have g2 : g.2 = d.2 := by rw [hg, pn_sI2]; exact S.1.1.1
    have n0 : g.1 23 0 = nI t := by rw [hg, pn_o (by omega)]; exact SN 0 (by simp)
    have n1 : g.1 23 1 = nI u := by rw [hg, pn_o (by omega)]; exact SN 1 (by simp)
    have n2 : g.1 23 2 = nI v := by rw [hg, pn_o (by omega)]; exact SN 2 (by simp)
    have w4 : g.1 3 4 = 0 := by rw [hg, pn_o (by omega)]; exact S.1.2.1
    have w5 : g.1 3 5 = -1 := by rw [hg, pn_o (by omega)]; exact S.1.2.2.1
    have w22 : g.1 22 2 = nI j := by rw [hg, pn_o (by omega)]; exact S.2.2
    have cg := pr_goK (k := 4) S s0
    rw [← hg] at cg
    obtain ⟨d2, O1, O2, O3, O4, O5, O6, O7, O8⟩ := pr_o4 n0 n1 n2 ((gF 10 0 (by omega) (by omega) (by omega) (by omega)).trans s4) (by omega)
    rw [O1, pb_s] at cg
    exact ⟨d2, e3, cl.trans cg, rl, ⟨O2.trans g2, fun a z q1 q2 => by rw [O8 a z (by omega)]; exact gF a z (by omega) (by omega) q2 (by omega)⟩, Or.inr ⟨j, y, c, nt, ns + 1, nb, K2, by rw [O8 _ _ (by omega)]; exact w4, by rw [O8 _ _ (by omega)]; exact w5, by rw [O8 _ _ (by omega)]; exact w22, by omega, B9, pr_z4 hZ hl (by omega) (t := t) (u := u) (a := v) B1 (by omega) (by omega) (by rw [O8 _ _ (by omega)]; exact g0) O3 O4 O5 O6 O7 (fun a k q1 q2 q3 => by rw [O8 a k (by omega)]; exact gF a k (by omega) (by omega) (by omega) (by omega)) (by rw [K3, pr_fE]) (by rw [K3, pr_fN (by omega), R4, pr_fE]) (by rw [K3, pr_fN (by omega), R4, pr_fN (by omega), pr_fN (by omega), pr_fN (by omega), pr_fE]) (by rw [K3, pr_fN (by omega), R4, pr_fN (by omega), pr_fN (by omega), pr_fE]) (by rw [K3, pr_fN (by omega), R4, pr_fN (by omega), pr_fE]) (fun z q1 q2 => by rw [K3, pr_fN q1, R4, pr_fN (by omega), pr_fN (by omega), pr_fN (by omega), pr_fN (by omega)])⟩⟩
theorem pr_line4f (H : pr_L n b d e0 e i l y c nt ns nb) (hl : l ≠ 0) (P : pr_is b (pr_S n b i) (pr_E n b i) ps_seller) (hf : ns = 5) : pr_LO n b d e0 i l (f_X3_readLine d) (f_X12_readLine e) := by
  have H' := H
  obtain ⟨ht, hK, h4, h5, hi, htr, hr, hZ, hl2⟩ := H'
  have hZ' := hZ
  obtain ⟨⟨s0, s1, s2, s3, s4, s5⟩, ⟨r0, r1, r2, r3, r4, r5⟩, ⟨b1, b2, b3, b4, b5, b6, b7⟩, -⟩ := hZ'
  have l0 : ¬ nI l = 0 := fun z => hl ((nI_eq (b := 0) (by omega) (by omega)).1 z)
  have l1 : ¬ e.1 89 4 = 0 := fun z => l0 (r0.symm.trans z)
  have kh := pr_khK ht hK hi (k := 4) (by omega) P
  obtain ⟨e1, T1, T2, T3⟩ := pr_n14f htr hr r4 (by omega) hf P
  obtain ⟨e3, K1, K2, K3⟩ := pr_tail htr T2 (by rw [T3]; exact r0)
  refine pr_rfs H (f := 3) (by omega) (by omega) ?_ (e' := e3) (by rw [pr_rl1 l1, T1, pb_s, K1]) K2
  rw [pr_clB kh (by omega) ⟨fun z => absurd (s0.symm.trans z) l0, fun z => absurd z (by omega)⟩, pr_u4 s4 b4, if_neg (show ¬ ns < 5 by omega), pb_s, if_neg pn_10]
  rfl
/-- grows -/
theorem pr_line5 (H : pr_L n b d e0 e i l y c nt ns nb) (hl : l ≠ 0) (P : pr_is b (pr_S n b i) (pr_E n b i) ps_grows) : pr_LO n b d e0 i l (f_X3_readLine d) (f_X12_readLine e) := by
  obtain ⟨ht, hK, h4, h5, hi, htr, hr, hZ, hl2⟩ := H
  have hZ' := hZ
  obtain ⟨⟨s0, s1, s2, s3, s4, s5⟩, ⟨r0, r1, r2, r3, r4, r5⟩, ⟨b1, b2, b3, b4, b5, b6, b7⟩, -⟩ := hZ'
  have hE := pr_E_b (b := b) hi
  have l0 : ¬ nI l = 0 := fun z => hl ((nI_eq (b := 0) (by omega) (by omega)).1 z)
  have kh := pr_khK ht hK hi (k := 5) (by omega) P
  have c0 := pr_c0 hK h4 h5 hi
  obtain ⟨d1, C1, C2⟩ := pr_f5 ht c0 s4 b4 s1 b2
  have cl : f_X3_readLine d = pr_go 5 d1 := by
    rw [pr_clB kh (by omega) ⟨fun z => absurd (s0.symm.trans z) l0, fun z => absurd z (by omega)⟩, pr_u0 (by omega), pb_s, if_pos rfl, pr_form (q := 5) (x0 := 5) (by decide +kernel), C2, pb_s]
  obtain ⟨e1, T1, T2, T3⟩ := pr_n15 htr hr P
  have l1 : ¬ e.1 89 4 = 0 := fun z => l0 (r0.symm.trans z)
  obtain ⟨e2, R1, R2, R3⟩ := pr_r2s htr T1 (m := ns) (y := y) (r := 326) (by omega) (by rw [T2]; exact r1) b2 (by omega)
  have hm : e1.1 89 2 = nI ns := by rw [T2]; exact r4
  have rl0 : f_X12_readLine e = pr_k45 e2 := by
    rw [pr_rl1 l1, T3, pr_d2, pb_s, hm, show (326 : Int32) = nI 326 from rfl, R1, pb_s, pb_s]
  have tl : ∀ m, e2.1 89 4 = nI m → ∃ e3, pr_k45 e2 = some e3 ∧ pr_rS n b e0 e3 (pr_tw n b ps_semi (pr_a2 n b ns y (.inr (pr_E n b i))).2) ∧ e3.1 89 = pr_f (e2.1 89) 4 (nI (m + 1)) := fun m hm => pr_tail htr R2 hm
  have hs : ∀ Y, pr_tw n b ps_semi (pr_a2 n b ns y (.inr (pr_E n b i))).2 = Y → pr_cS n d d1 (pr_a2 n b ns y (.inr (pr_E n b i))).1 Y := fun Y hY => by rw [← hY]; exact C1
  cases hX : pr_tw n b ps_semi (pr_a2 n b ns y (.inr (pr_E n b i))).2 with
  | inl f =>
    have S := hs _ hX
    obtain ⟨e3, K1, K2⟩ := pr_tailb htr R2
    rw [hX] at K2
    exact ⟨d1, e3, cl.trans (pr_goE S), rl0.trans K1, pr_cLF S.1, Or.inl ⟨f, K2, S.2.1, S.2.2.1⟩⟩
  | inr j =>
    have S := hs _ hX
    obtain ⟨t, k, v, B0, B1, B2, B3, B8, B9⟩ := pr_b2 hX hE.2.2.2.1
    have hN : (pr_a2 n b ns y (.inr (pr_E n b i))).1 = [t, k, v] := B0
    obtain ⟨j1, g1, -⟩ := pr_tw_g (by decide) hX
    obtain ⟨t2, k2, v2, B0', R4⟩ := R3 _ g1
    rw [B0] at B0'
    cases B0'
    rw [T2] at R4
    have e24 : e2.1 89 4 = nI l := by rw [R4, pr_fN (by omega)]; exact r0
    obtain ⟨e3, K1, K2, K3⟩ := tl l e24
    rw [hX] at K2
    have rl : f_X12_readLine e = some e3 := rl0.trans K1
    rw [hN] at S
    have SN := S.1.2.2.2.2
    obtain ⟨g, hg⟩ : ∃ g, g = ya_sI d1 4 0 (nI (l + 1)) := ⟨_, rfl⟩
    have gF : ∀ a z, a ≠ 22 → a ≠ 23 → (a ≠ 3 ∨ z < 3 ∨ 5 < z) → (a ≠ 4 ∨ z ≠ 0) → g.1 a z = d.1 a z := fun a z q1 q2 q3 q4 => by rw [hg, pn_o q4]; exact S.1.1.2 a z q1 q2 q3
    have g0 : g.1 4 0 = nI (l + 1) := by rw [hg]; exact pn_e ⟨rfl, rfl⟩
    have g2 : g.2 = d.2 := by rw [hg, pn_sI2]; exact S.1.1.1
    have n0 : g.1 23 0 = nI t := by rw [hg, pn_o (by omega)]; exact SN 0 (by simp)
    have n1 : g.1 23 1 = nI k := by rw [hg, pn_o (by omega)]; exact SN 1 (by simp)
    have n2 : g.1 23 2 = nI v := by rw [hg, pn_o (by omega)]; exact SN 2 (by simp)
    have w4 : g.1 3 4 = 0 := by rw [hg, pn_o (by omega)]; exact S.1.2.1
    have w5 : g.1 3 5 = -1 := by rw [hg, pn_o (by omega)]; exact S.1.2.2.1
    have w22 : g.1 22 2 = nI j := by rw [hg, pn_o (by omega)]; exact S.2.2
    have cg := pr_goK (k := 5) S s0
    rw [← hg] at cg
    rw [pr_o5 n0 n1 n2 (by omega) (by omega), pb_s] at cg
    exact ⟨_, e3, cl.trans cg, rl, ⟨g2, fun a z q1 q2 => by rw [pn_o (by omega)]; exact gF a z (by omega) (by omega) q2 (by omega)⟩, Or.inr ⟨j, y, c, nt, ns, nb, K2, by rw [pn_o (by omega)]; exact w4, by rw [pn_o (by omega)]; exact w5, by rw [pn_o (by omega)]; exact w22, by omega, B9, pr_z5 hZ hl B1 B2 (by omega) (by rw [pn_o (by omega)]; exact g0) (pn_e ⟨rfl, rfl⟩) (fun a k q1 q2 q3 => by rw [pn_o (by omega)]; exact gF a k (by omega) (by omega) (by omega) (by omega)) (by rw [K3, pr_fE]) (by rw [K3, pr_fN (by omega), R4, pr_fE]) (fun k q1 q2 => by rw [K3, pr_fN q1, R4, pr_fN q2])⟩⟩
/-- buyer -/
theorem pr_line6 (H : pr_L n b d e0 e i l y c nt ns nb) (hl : l ≠ 0) (P : pr_is b (pr_S n b i) (pr_E n b i) ps_buyer) (hf : nb ≠ 7) : pr_LO n b d e0 i l (f_X3_readLine d) (f_X12_readLine e) := by
  obtain ⟨ht, hK, h4, h5, hi, htr, hr, hZ, hl2⟩ := H
  have hZ' := hZ
  obtain ⟨⟨s0, s1, s2, s3, s4, s5⟩, ⟨r0, r1, r2, r3, r4, r5⟩, ⟨b1, b2, b3, b4, b5, b6, b7⟩, -⟩ := hZ'
  have hE := pr_E_b (b := b) hi
  have l0 : ¬ nI l = 0 := fun z => hl ((nI_eq (b := 0) (by omega) (by omega)).1 z)
  have kh := pr_khK ht hK hi (k := 6) (by omega) P
  have c0 := pr_c0 hK h4 h5 hi
  obtain ⟨d1, C1, C2⟩ := pr_f6 ht c0 s3 b3 s1 b2
  have cl : f_X3_readLine d = pr_go 6 d1 := by
    rw [pr_clB kh (by omega) ⟨fun z => absurd (s0.symm.trans z) l0, fun z => absurd z (by omega)⟩, pr_u6 s5 b5, if_pos (show nb < 7 by omega), pb_s, if_pos rfl, pr_form (q := 6) (x0 := 5) (by decide +kernel), C2, pb_s]
  obtain ⟨e1, T1, T2, T3⟩ := pr_n16 htr hr r5 (by omega) hf P
  have l1 : ¬ e.1 89 4 = 0 := fun z => l0 (r0.symm.trans z)
  obtain ⟨e2, R1, R2, t, w, p, f, o, s, R3, R4⟩ := pr_r6s htr T1 (nt := nt) (nb := nb) (y := y) (by rw [T2]; exact r3) b3 (by rw [T2]; exact r5) (by omega) (by rw [T2]; exact r1) b2
  rw [T2] at R4
  have e24 : e2.1 89 4 = nI l := by rw [R4, pr_fN (by omega), pr_fN (by omega), pr_fN (by omega), pr_fN (by omega), pr_fN (by omega), pr_fN (by omega), pr_fN (by omega)]; exact r0
  obtain ⟨e3, K1, K2, K3⟩ := pr_tail htr R2 e24
  have rl : f_X12_readLine e = some e3 := by
    rw [pr_rl1 l1, T3, R1, pb_s, pb_s, K1]
  have hs : ∀ Y, pr_tw n b ps_semi (pr_a6 n b nt y (.inr (pr_E n b i))).2 = Y → pr_cS n d d1 (pr_a6 n b nt y (.inr (pr_E n b i))).1 Y := fun Y hY => by rw [← hY]; exact C1
  cases hX : pr_tw n b ps_semi (pr_a6 n b nt y (.inr (pr_E n b i))).2 with
  | inl f =>
    have S := hs _ hX
    have K2 : pr_rS n b e0 e3 (.inl f) := hX ▸ K2
    exact ⟨d1, e3, cl.trans (pr_goE S), rl, pr_cLF S.1, Or.inl ⟨f, K2, S.2.1, S.2.2.1⟩⟩
  | inr j =>
    have S := hs _ hX
    have K2 : pr_rS n b e0 e3 (.inr j) := hX ▸ K2
    obtain ⟨t', w', p', f', o', s', B0, B1, B2, B3, B4, B5, B6, B7, B8, B9⟩ := pr_b6 hX hE.2.2.2.1
    rw [R3] at B0
    cases B0
    have hN : (pr_a6 n b nt y (.inr (pr_E n b i))).1 = [t, w, p, f, o, s] := R3
    rw [hN] at S
    have SN := S.1.2.2.2.2
    obtain ⟨g, hg⟩ : ∃ g, g = ya_sI d1 4 0 (nI (l + 1)) := ⟨_, rfl⟩
    have gF : ∀ a z, a ≠ 22 → a ≠ 23 → (a ≠ 3 ∨ z < 3 ∨ 5 < z) → (a ≠ 4 ∨ z ≠ 0) → g.1 a z = d.1 a z := fun a z q1 q2 q3 q4 => by rw [hg, pn_o q4]; exact S.1.1.2 a z q1 q2 q3
    have g0 : g.1 4 0 = nI (l + 1) := by rw [hg]; exact pn_e ⟨rfl, rfl⟩
    have g2 : g.2 = d.2 := by rw [hg, pn_sI2]; exact S.1.1.1
    have n0 : g.1 23 0 = nI t := by rw [hg, pn_o (by omega)]; exact SN 0 (by simp)
    have n1 : g.1 23 1 = nI w := by rw [hg, pn_o (by omega)]; exact SN 1 (by simp)
    have n2 : g.1 23 2 = nI p := by rw [hg, pn_o (by omega)]; exact SN 2 (by simp)
    have n3 : g.1 23 3 = nI f := by rw [hg, pn_o (by omega)]; exact SN 3 (by simp)
    have n4 : g.1 23 4 = nI o := by rw [hg, pn_o (by omega)]; exact SN 4 (by simp)
    have n5 : g.1 23 5 = nI s := by rw [hg, pn_o (by omega)]; exact SN 5 (by simp)
    have w4 : g.1 3 4 = 0 := by rw [hg, pn_o (by omega)]; exact S.1.2.1
    have w5 : g.1 3 5 = -1 := by rw [hg, pn_o (by omega)]; exact S.1.2.2.1
    have w22 : g.1 22 2 = nI j := by rw [hg, pn_o (by omega)]; exact S.2.2
    have cg := pr_goK (k := 6) S s0
    rw [← hg] at cg
    rw [pr_o6 n0 n1 n2 n3 n4 n5 ((gF 15 0 (by omega) (by omega) (by omega) (by omega)).trans s5) (by omega), pb_s] at cg
    exact ⟨_, e3, cl.trans cg, rl, ⟨g2, fun a z q1 q2 => by rw [pn_o (by omega), pn_o (by omega), pn_o (by omega), pn_o (by omega), pn_o (by omega), pn_o (by omega), pn_o (by omega)]; exact gF a z (by omega) (by omega) q2 (by omega)⟩, Or.inr ⟨j, y, c, nt, ns, nb + 1, K2, by rw [pn_o (by omega), pn_o (by omega), pn_o (by omega), pn_o (by omega), pn_o (by omega), pn_o (by omega), pn_o (by omega)]; exact w4, by rw [pn_o (by omega), pn_o (by omega), pn_o (by omega), pn_o (by omega), pn_o (by omega), pn_o (by omega), pn_o (by omega)]; exact w5, by rw [pn_o (by omega), pn_o (by omega), pn_o (by omega), pn_o (by omega), pn_o (by omega), pn_o (by omega), pn_o (by omega)]; exact w22, by omega, B9, pr_z6 hZ hl (by omega) (t := t) (w := w) (p := p) (f := f) (o := o) (s := s) B1 B2 (by omega) (by omega) B5 B6 (by omega) (by rw [pn_o (by omega), pn_o (by omega), pn_o (by omega), pn_o (by omega), pn_o (by omega), pn_o (by omega), pn_o (by omega)]; exact g0) (pn_e ⟨rfl, rfl⟩) ⟨by rw [pn_o (by omega), pn_o (by omega), pn_o (by omega), pn_o (by omega), pn_o (by omega), pn_o (by omega)]; exact pn_e ⟨rfl, rfl⟩, by rw [pn_o (by omega), pn_o (by omega), pn_o (by omega), pn_o (by omega), pn_o (by omega)]; exact pn_e ⟨rfl, rfl⟩, by rw [pn_o (by omega), pn_o (by omega), pn_o (by omega), pn_o (by omega)]; exact pn_e ⟨rfl, rfl⟩, by rw [pn_o (by omega), pn_o (by omega), pn_o (by omega)]; exact pn_e ⟨rfl, rfl⟩, by rw [pn_o (by omega), pn_o (by omega)]; exact pn_e ⟨rfl, rfl⟩, by rw [pn_o (by omega)]; exact pn_e ⟨rfl, rfl⟩⟩ (fun a k q1 q2 q3 => by rw [pn_o (by omega), pn_o (by omega), pn_o (by omega), pn_o (by omega), pn_o (by omega), pn_o (by omega), pn_o (by omega)]; exact gF a k (by omega) (by omega) (by omega) (by omega)) (by rw [K3, pr_fE]) (by rw [K3, pr_fN (by omega), R4, pr_fE]) ⟨by rw [K3, pr_fN (by omega), R4, pr_fN (by omega), pr_fN (by omega), pr_fN (by omega), pr_fN (by omega), pr_fN (by omega), pr_fN (by omega), pr_fE], by rw [K3, pr_fN (by omega), R4, pr_fN (by omega), pr_fN (by omega), pr_fN (by omega), pr_fN (by omega), pr_fN (by omega), pr_fE], by rw [K3, pr_fN (by omega), R4, pr_fN (by omega), pr_fN (by omega), pr_fN (by omega), pr_fN (by omega), pr_fE], by rw [K3, pr_fN (by omega), R4, pr_fN (by omega), pr_fN (by omega), pr_fN (by omega), pr_fE], by rw [K3, pr_fN (by omega), R4, pr_fN (by omega), pr_fN (by omega), pr_fE], by rw [K3, pr_fN (by omega), R4, pr_fN (by omega), pr_fE]⟩ (fun z q1 q2 => by rw [K3, pr_fN q1, R4, pr_fN (by omega), pr_fN (by omega), pr_fN (by omega), pr_fN (by omega), pr_fN (by omega), pr_fN (by omega), pr_fN (by omega)])⟩⟩
theorem pr_line6f (H : pr_L n b d e0 e i l y c nt ns nb) (hl : l ≠ 0) (P : pr_is b (pr_S n b i) (pr_E n b i) ps_buyer) (hf : nb = 7) : pr_LO n b d e0 i l (f_X3_readLine d) (f_X12_readLine e) := by
  have H' := H
  obtain ⟨ht, hK, h4, h5, hi, htr, hr, hZ, hl2⟩ := H'
  have hZ' := hZ
  obtain ⟨⟨s0, s1, s2, s3, s4, s5⟩, ⟨r0, r1, r2, r3, r4, r5⟩, ⟨b1, b2, b3, b4, b5, b6, b7⟩, -⟩ := hZ'
  have l0 : ¬ nI l = 0 := fun z => hl ((nI_eq (b := 0) (by omega) (by omega)).1 z)
  have l1 : ¬ e.1 89 4 = 0 := fun z => l0 (r0.symm.trans z)
  have kh := pr_khK ht hK hi (k := 6) (by omega) P
  obtain ⟨e1, T1, T2, T3⟩ := pr_n16f htr hr r5 (by omega) hf P
  obtain ⟨e3, K1, K2, K3⟩ := pr_tail htr T2 (by rw [T3]; exact r0)
  refine pr_rfs H (f := 3) (by omega) (by omega) ?_ (e' := e3) (by rw [pr_rl1 l1, T1, pb_s, K1]) K2
  rw [pr_clB kh (by omega) ⟨fun z => absurd (s0.symm.trans z) l0, fun z => absurd z (by omega)⟩, pr_u6 s5 b5, if_neg (show ¬ nb < 7 by omega), pb_s, if_neg pn_10]
  rfl
/-- cap -/
theorem pr_line7 (H : pr_L n b d e0 e i l y c nt ns nb) (hl : l ≠ 0) (P : pr_is b (pr_S n b i) (pr_E n b i) ps_cap) : pr_LO n b d e0 i l (f_X3_readLine d) (f_X12_readLine e) := by
  obtain ⟨ht, hK, h4, h5, hi, htr, hr, hZ, hl2⟩ := H
  have hZ' := hZ
  obtain ⟨⟨s0, s1, s2, s3, s4, s5⟩, ⟨r0, r1, r2, r3, r4, r5⟩, ⟨b1, b2, b3, b4, b5, b6, b7⟩, -⟩ := hZ'
  have hE := pr_E_b (b := b) hi
  have l0 : ¬ nI l = 0 := fun z => hl ((nI_eq (b := 0) (by omega) (by omega)).1 z)
  have kh := pr_khK ht hK hi (k := 7) (by omega) P
  have c0 := pr_c0 hK h4 h5 hi
  obtain ⟨d1, C1, C2⟩ := pr_f7 ht c0
  have cl : f_X3_readLine d = pr_go 7 d1 := by
    rw [pr_clB kh (by omega) ⟨fun z => absurd (s0.symm.trans z) l0, fun z => absurd z (by omega)⟩, pr_u0 (by omega), pb_s, if_pos rfl, pr_form (q := 7) (x0 := 3) (by decide +kernel), C2, pb_s]
  obtain ⟨e1, T1, T2, T3⟩ := pr_n17 htr hr P
  have l1 : ¬ e.1 89 4 = 0 := fun z => l0 (r0.symm.trans z)
  obtain ⟨e2, R1, R2, R3⟩ := pr_number htr T1 (lo := 0) (hi := 100) (L := 0) (H := 99) rfl (by omega) (by omega) pr_H99
  have e24 : (ya_sI e2 89 5 (nI (pr_tn n b 0 100 (.inr (pr_E n b i))).1)).1 89 4 = nI l := by rw [pn_o (by omega), R3, T2]; exact r0
  obtain ⟨e3, K1, K2, K3⟩ := pr_tail htr (pr_rS_w R2 5 (nI (pr_tn n b 0 100 (.inr (pr_E n b i))).1)) e24
  rw [pr_fe, R3, T2] at K3
  have rl : f_X12_readLine e = some e3 := by
    rw [pr_rl1 l1, T3, R1, ya_b2s, pr_w5, pb_s, pb_s, K1]
  have hs : ∀ Y, pr_tw n b ps_semi (pr_a7 n b (.inr (pr_E n b i))).2 = Y → pr_cS n d d1 (pr_a7 n b (.inr (pr_E n b i))).1 Y := fun Y hY => by rw [← hY]; exact C1
  cases hX : pr_tw n b ps_semi (pr_a7 n b (.inr (pr_E n b i))).2 with
  | inl f =>
    have S := hs _ hX
    have K2 : pr_rS n b e0 e3 (.inl f) := hX ▸ K2
    exact ⟨d1, e3, cl.trans (pr_goE S), rl, pr_cLF S.1, Or.inl ⟨f, K2, S.2.1, S.2.2.1⟩⟩
  | inr j =>
    have S := hs _ hX
    have K2 : pr_rS n b e0 e3 (.inr j) := hX ▸ K2
    obtain ⟨v, B0, B1, B8, B9⟩ := pr_b7 hX hE.2.2.2.1
    have hN : (pr_a7 n b (.inr (pr_E n b i))).1 = [v] := B0
    rw [hN] at S
    have SN := S.1.2.2.2.2
    obtain ⟨g, hg⟩ : ∃ g, g = ya_sI d1 4 0 (nI (l + 1)) := ⟨_, rfl⟩
    have gF : ∀ a z, a ≠ 22 → a ≠ 23 → (a ≠ 3 ∨ z < 3 ∨ 5 < z) → (a ≠ 4 ∨ z ≠ 0) → g.1 a z = d.1 a z := fun a z q1 q2 q3 q4 => by rw [hg, pn_o q4]; exact S.1.1.2 a z q1 q2 q3
    have g0 : g.1 4 0 = nI (l + 1) := by rw [hg]; exact pn_e ⟨rfl, rfl⟩
    have g2 : g.2 = d.2 := by rw [hg, pn_sI2]; exact S.1.1.1
    have n0 : g.1 23 0 = nI v := by rw [hg, pn_o (by omega)]; exact SN 0 (by simp)
    have w4 : g.1 3 4 = 0 := by rw [hg, pn_o (by omega)]; exact S.1.2.1
    have w5 : g.1 3 5 = -1 := by rw [hg, pn_o (by omega)]; exact S.1.2.2.1
    have w22 : g.1 22 2 = nI j := by rw [hg, pn_o (by omega)]; exact S.2.2
    have cg := pr_goK (k := 7) S s0
    rw [← hg] at cg
    have Rv : (pr_tn n b 0 100 (.inr (pr_E n b i))).1 = v := by
      have h := B0
      exact (List.cons.inj h).1
    rw [Rv] at K3
    rw [pr_o7 n0, pb_s] at cg
    exact ⟨_, e3, cl.trans cg, rl, ⟨g2, fun a z q1 q2 => by rw [pn_o (by omega)]; exact gF a z (by omega) (by omega) q2 (by omega)⟩, Or.inr ⟨j, y, v, nt, ns, nb, K2, by rw [pn_o (by omega)]; exact w4, by rw [pn_o (by omega)]; exact w5, by rw [pn_o (by omega)]; exact w22, by omega, B9, pr_z7 hZ hl (by omega) (by rw [pn_o (by omega)]; exact g0) (pn_e ⟨rfl, rfl⟩) (fun a k q1 q2 q3 => by
      by_cases z : a = 4 ∧ k = 2
      · omega
      · rw [pn_o (by omega)]; exact gF a k (by omega) (by omega) (by omega) (by omega)) (by rw [K3, pr_fE]) (by rw [K3, pr_fN (by omega), pr_fE]) (fun k q1 q2 => by rw [K3, pr_fN q1, pr_fN q2])⟩⟩
end
