/-! Market: the reference reads a line -/
def pr_f (g : Nat → Int32) (k : Nat) (v : Int32) : Nat → Int32 := fun z => if z = k then v else g z
theorem pr_fe (e : ya_D) (k : Nat) (v : Int32) : (ya_sI e 89 k v).1 89 = pr_f (e.1 89) k v := by
  funext z
  by_cases c : z = k
  · rw [pn_e ⟨rfl, c⟩, pr_f, if_pos c]
  · rw [pn_o (Or.inr c), pr_f, if_neg c]
theorem pr_d0 (d : ya_D) : ya_rI d 89 468 0 = some (d.1 89 0) := pn_rI (t := 0) (by omega) (by omega)
theorem pr_d1 (d : ya_D) : ya_rI d 89 468 1 = some (d.1 89 1) := pn_rI (t := 1) (by omega) (by omega)
theorem pr_d2 (d : ya_D) : ya_rI d 89 468 2 = some (d.1 89 2) := pn_rI (t := 2) (by omega) (by omega)
theorem pr_d3 (d : ya_D) : ya_rI d 89 468 3 = some (d.1 89 3) := pn_rI (t := 3) (by omega) (by omega)
theorem pr_d4 (d : ya_D) : ya_rI d 89 468 4 = some (d.1 89 4) := pn_rI (t := 4) (by omega) (by omega)
theorem pr_w0 (d : ya_D) (v : Int32) : ya_wI d 89 468 0 v = some (ya_sI d 89 0 v) := pn_wI (t := 0) (by omega) (by omega)
theorem pr_w1 (d : ya_D) (v : Int32) : ya_wI d 89 468 1 v = some (ya_sI d 89 1 v) := pn_wI (t := 1) (by omega) (by omega)
theorem pr_w2 (d : ya_D) (v : Int32) : ya_wI d 89 468 2 v = some (ya_sI d 89 2 v) := pn_wI (t := 2) (by omega) (by omega)
theorem pr_w3 (d : ya_D) (v : Int32) : ya_wI d 89 468 3 v = some (ya_sI d 89 3 v) := pn_wI (t := 3) (by omega) (by omega)
theorem pr_w4 (d : ya_D) (v : Int32) : ya_wI d 89 468 4 v = some (ya_sI d 89 4 v) := pn_wI (t := 4) (by omega) (by omega)
theorem pr_w5 (d : ya_D) (v : Int32) : ya_wI d 89 468 5 v = some (ya_sI d 89 5 v) := pn_wI (t := 5) (by omega) (by omega)
theorem pr_311 (s : Nat) : (311 : Int32) + ((3 : Int32) * nI s) = nI (311 + 3 * s) := by
  rw [show (311 : Int32) = nI 311 from rfl, show (3 : Int32) = nI 3 from rfl, pn_mul, nI_add]
theorem pr_426 (s : Nat) : (426 : Int32) + ((6 : Int32) * nI s) = nI (426 + 6 * s) := by
  rw [show (426 : Int32) = nI 426 from rfl, show (6 : Int32) = nI 6 from rfl, pn_mul, nI_add]
theorem pr_p2 (p : Nat) : nI p + 2 = nI (p + 2) := nI_add p 2
theorem pr_p3 (p : Nat) : nI p + 3 = nI (p + 3) := nI_add p 3
theorem pr_p4 (p : Nat) : nI p + 4 = nI (p + 4) := nI_add p 4
theorem pr_p5 (p : Nat) : nI p + 5 = nI (p + 5) := nI_add p 5
theorem pr_p6 (p : Nat) : (6 : Int32) + nI p = nI (6 + p) := nI_add 6 p
theorem pr_H99 : (99 : Int32).toInt = ((100 : Nat) : Int) - 1 := by decide
theorem pr_H30 : (30 : Int32).toInt = ((31 : Nat) : Int) - 1 := by decide
theorem pr_H9 : (9 : Int32).toInt = ((10 : Nat) : Int) - 1 := by decide
theorem pr_H20 : (20 : Int32).toInt = ((21 : Nat) : Int) - 1 := by decide
section
variable {n : Nat} {b : Nat → Nat} {d0 d e0 e : ya_D} {X : pr_X} {l : List Nat}
theorem pr_tn_g {lo hi j : Nat} (h : (pr_tn n b lo hi X).2 = .inr j) : ∃ i, X = .inr i ∧ lo ≤ (pr_tn n b lo hi X).1 ∧ (pr_tn n b lo hi X).1 < hi ∧ (i ≤ n → i < j ∧ j ≤ n) := by
  cases X with
  | inl f => rw [pr_tn] at h; cases h
  | inr i =>
    refine ⟨i, rfl, ?_⟩
    rw [pr_tn] at h ⊢
    by_cases c : pr_k n b i = 2
    · rw [if_pos c] at h ⊢
      by_cases c2 : lo ≤ pr_V n b i ∧ pr_V n b i < hi
      · rw [if_pos c2] at h ⊢
        cases h
        refine ⟨c2.1, c2.2, fun hi => ?_⟩
        have hE := pr_E_b (b := b) hi
        have := hE.2.2.2.2 (by omega)
        omega
      · rw [if_neg c2] at h; cases h
    · rw [if_neg c] at h; cases h
theorem pr_tw_g {w : List Nat} (hw : w ≠ []) {j : Nat} (h : pr_tw n b w X = .inr j) : ∃ i, X = .inr i ∧ (i ≤ n → i < j ∧ j ≤ n) := by
  cases X with
  | inl f => rw [pr_tw] at h; cases h
  | inr i =>
    refine ⟨i, rfl, ?_⟩
    rw [pr_tw] at h
    by_cases c : pr_is b (pr_S n b i) (pr_E n b i) w
    · rw [if_pos c] at h
      cases h
      intro hi
      have hE := pr_E_b (b := b) hi
      have h1 := c.1
      have h2 := List.length_pos_iff.2 hw
      omega
    · rw [if_neg c] at h; cases h
theorem pr_fT (ht : pr_tr e0 n b) (h : pr_rS n b e0 e X) {nt : Nat} (hm : e.1 89 1 = nI nt) (hm5 : nt ≤ 5) : ∃ e', f_X12_freshThing e = some (nI (pr_tn n b 0 nt X).1, e') ∧ pr_rS n b e0 e' (pr_tn n b 0 nt X).2 ∧ e'.1 89 = e.1 89 := by
  obtain ⟨e', A1, A2, A3⟩ := pr_number ht h (lo := 0) (hi := nt) (L := 0) (H := nI nt - 1) rfl (by omega) (by omega) (pr_m1I (by omega))
  exact ⟨e', by rw [f_X12_freshThing, pr_d1, pb_s, hm, A1, ya_b2s], A2, A3⟩
/-- a seller -/
theorem pr_r4s (ht : pr_tr e0 n b) (h : pr_rS n b e0 e X) {nt ns : Nat} (hm : e.1 89 1 = nI nt) (hm5 : nt ≤ 5) (hs : e.1 89 2 = nI ns) (hs5 : ns < 5) : ∃ e', f_X12_readSeller e = some e' ∧ pr_rS n b e0 e' (pr_a4 n b nt X).2 ∧ ∃ t h a, (pr_a4 n b nt X).1 = [t, h, a] ∧ e'.1 89 = pr_f (pr_f (pr_f (pr_f (e.1 89) (311 + 3 * ns) (nI t)) (311 + 3 * ns + 2) (nI h)) (311 + 3 * ns + 1) (nI a)) 2 (nI (ns + 1)) := by
  obtain ⟨e1, A1, A2, A3⟩ := pr_fT ht h hm hm5
  obtain ⟨e2, B1, B2, B3⟩ := pr_told ht (pr_rS_w A2 (311 + 3 * ns) (nI (pr_tn n b 0 nt X).1)) (q := 20) (lo := 0) (hi := 100) (w := ps_has) (L := 0) (H := 99) (by decide +kernel) rfl (by omega) (by omega) pr_H99
  obtain ⟨e3, C1, C2, C3⟩ := pr_told ht (pr_rS_w B2 (311 + 3 * ns + 2) (nI (pr_tn n b 0 100 (pr_tw n b ps_has (pr_tn n b 0 nt X).2)).1)) (q := 21) (lo := 0) (hi := 100) (w := ps_asks) (L := 0) (H := 99) (by decide +kernel) rfl (by omega) (by omega) pr_H99
  obtain ⟨t, et⟩ : ∃ t, t = (pr_tn n b 0 nt X).1 := ⟨_, rfl⟩
  obtain ⟨v, ev⟩ : ∃ v, v = (pr_tn n b 0 100 (pr_tw n b ps_has (pr_tn n b 0 nt X).2)).1 := ⟨_, rfl⟩
  obtain ⟨a, ea⟩ : ∃ a, a = (pr_tn n b 0 100 (pr_tw n b ps_asks (pr_tn n b 0 100 (pr_tw n b ps_has (pr_tn n b 0 nt X).2)).2)).1 := ⟨_, rfl⟩
  have hfin : (ya_sI e3 89 (311 + 3 * ns + 1) (nI a)).1 89 = pr_f (pr_f (pr_f (e.1 89) (311 + 3 * ns) (nI t)) (311 + 3 * ns + 2) (nI v)) (311 + 3 * ns + 1) (nI a) := by
    rw [pr_fe, C3, pr_fe, B3, pr_fe, A3, et, ev]
  have h2 : (ya_sI e3 89 (311 + 3 * ns + 1) (nI a)).1 89 2 = nI ns := by
    rw [hfin]
    unfold pr_f
    rw [if_neg (by omega), if_neg (by omega), if_neg (by omega), hs]
  refine ⟨ya_sI (ya_sI e3 89 (311 + 3 * ns + 1) (nI a)) 89 2 (nI (ns + 1)), ?_, pr_rS_w (pr_rS_w C2 _ _) _ _, t, v, a, by rw [et, ev, ea]; rfl, by rw [pr_fe, hfin]⟩
  rw [f_X12_readSeller, pr_d2, pb_s, hs, A1, ya_b2s, pr_311, pn_wI (by omega) (by omega), pb_s, B1, ya_b2s, pr_p2, pn_wI (by omega) (by omega), pb_s, C1, ya_b2s, nI_1, pn_wI (by omega) (by omega), pb_s, pr_d2, pb_s, ← ea, h2, nI_1, pr_w2, pb_s]
/-- a buyer -/
theorem pr_r6s (ht : pr_tr e0 n b) (h : pr_rS n b e0 e X) {nt nb y : Nat} (hm : e.1 89 1 = nI nt) (hm5 : nt ≤ 5) (hs : e.1 89 3 = nI nb) (hs5 : nb < 7) (hy : e.1 89 0 = nI y) (hy5 : y ≤ 20) : ∃ e', f_X12_readBuyer e = some e' ∧ pr_rS n b e0 e' (pr_a6 n b nt y X).2 ∧ ∃ t w p f o s, (pr_a6 n b nt y X).1 = [t, w, p, f, o, s] ∧ e'.1 89 = pr_f (pr_f (pr_f (pr_f (pr_f (pr_f (pr_f (e.1 89) (426 + 6 * nb) (nI t)) (426 + 6 * nb + 1) (nI w)) (426 + 6 * nb + 2) (nI p)) (426 + 6 * nb + 3) (nI f)) (426 + 6 * nb + 4) (nI o)) (426 + 6 * nb + 5) (nI s)) 3 (nI (nb + 1)) := by
  obtain ⟨T, eT⟩ : ∃ T, T = pr_tn n b 0 nt X := ⟨_, rfl⟩
  obtain ⟨W, eW⟩ : ∃ W, W = pr_tn n b 1 10 (pr_tw n b ps_wants T.2) := ⟨_, rfl⟩
  obtain ⟨P, eP⟩ : ∃ P, P = pr_tn n b 0 100 (pr_tw n b ps_pays W.2) := ⟨_, rfl⟩
  obtain ⟨F, eF⟩ : ∃ F, F = pr_tn n b 0 y (pr_tw n b ps_from P.2) := ⟨_, rfl⟩
  obtain ⟨O, eO⟩ : ∃ O, O = pr_tn n b F.1 y (pr_tw n b ps_to F.2) := ⟨_, rfl⟩
  obtain ⟨Z, eZ⟩ : ∃ Z, Z = pr_tn n b 0 31 (pr_tw n b ps_stores O.2) := ⟨_, rfl⟩
  have ea : pr_a6 n b nt y X = ([T.1, W.1, P.1, F.1, O.1, Z.1], Z.2) := by
    rw [eZ, eO, eF, eP, eW, eT]; rfl
  have hF : F.1 ≤ 20 := by rw [eF]; exact Nat.le_trans (pr_tn_le _ _ _) hy5
  obtain ⟨e1, A1, A2, A3⟩ := pr_fT ht h hm hm5
  rw [← eT] at A1 A2
  obtain ⟨e2, B1, B2, B3⟩ := pr_told ht (pr_rS_w A2 (426 + 6 * nb) (nI T.1)) (q := 22) (lo := 1) (hi := 10) (w := ps_wants) (L := 1) (H := 9) (by decide +kernel) rfl (by omega) (by omega) pr_H9
  rw [← eW] at B1 B2
  obtain ⟨e3, C1, C2, C3⟩ := pr_told ht (pr_rS_w B2 (426 + 6 * nb + 1) (nI W.1)) (q := 23) (lo := 0) (hi := 100) (w := ps_pays) (L := 0) (H := 99) (by decide +kernel) rfl (by omega) (by omega) pr_H99
  rw [← eP] at C1 C2
  obtain ⟨e4, D1, D2, D3⟩ := pr_told ht (pr_rS_w C2 (426 + 6 * nb + 2) (nI P.1)) (q := 24) (lo := 0) (hi := y) (w := ps_from) (L := 0) (H := nI y - 1) (by decide +kernel) rfl (by omega) (by omega) (pr_m1I (by omega))
  rw [← eF] at D1 D2
  obtain ⟨e5, E1, E2, E3⟩ := pr_told ht (pr_rS_w D2 (426 + 6 * nb + 3) (nI F.1)) (q := 25) (lo := F.1) (hi := y) (w := ps_to) (L := nI F.1) (H := nI y - 1) (by decide +kernel) rfl (by omega) (by omega) (pr_m1I (by omega))
  rw [← eO] at E1 E2
  obtain ⟨e6, F1, F2, F3⟩ := pr_told ht (pr_rS_w E2 (426 + 6 * nb + 4) (nI O.1)) (q := 26) (lo := 0) (hi := 31) (w := ps_stores) (L := 0) (H := 30) (by decide +kernel) rfl (by omega) (by omega) pr_H30
  rw [← eZ] at F1 F2
  have q3 : (ya_sI e3 89 (426 + 6 * nb + 2) (nI P.1)).1 89 = pr_f (pr_f (pr_f (e.1 89) (426 + 6 * nb) (nI T.1)) (426 + 6 * nb + 1) (nI W.1)) (426 + 6 * nb + 2) (nI P.1) := by
    rw [pr_fe, C3, pr_fe, B3, pr_fe, A3]
  have q4 : (ya_sI e4 89 (426 + 6 * nb + 3) (nI F.1)).1 89 = pr_f (pr_f (pr_f (pr_f (e.1 89) (426 + 6 * nb) (nI T.1)) (426 + 6 * nb + 1) (nI W.1)) (426 + 6 * nb + 2) (nI P.1)) (426 + 6 * nb + 3) (nI F.1) := by
    rw [pr_fe, D3, q3]
  have q6 : (ya_sI e6 89 (426 + 6 * nb + 5) (nI Z.1)).1 89 = pr_f (pr_f (pr_f (pr_f (pr_f (pr_f (e.1 89) (426 + 6 * nb) (nI T.1)) (426 + 6 * nb + 1) (nI W.1)) (426 + 6 * nb + 2) (nI P.1)) (426 + 6 * nb + 3) (nI F.1)) (426 + 6 * nb + 4) (nI O.1)) (426 + 6 * nb + 5) (nI Z.1) := by
    rw [pr_fe, F3, pr_fe, E3, q4]
  have y3 : (ya_sI e3 89 (426 + 6 * nb + 2) (nI P.1)).1 89 0 = nI y := by
    rw [q3]; unfold pr_f
    rw [if_neg (by omega), if_neg (by omega), if_neg (by omega), hy]
  have y4 : (ya_sI e4 89 (426 + 6 * nb + 3) (nI F.1)).1 89 0 = nI y := by
    rw [q4]; unfold pr_f
    rw [if_neg (by omega), if_neg (by omega), if_neg (by omega), if_neg (by omega), hy]
  have y6 : (ya_sI e6 89 (426 + 6 * nb + 5) (nI Z.1)).1 89 3 = nI nb := by
    rw [q6]; unfold pr_f
    rw [if_neg (by omega), if_neg (by omega), if_neg (by omega), if_neg (by omega), if_neg (by omega), if_neg (by omega), hs]
  refine ⟨ya_sI (ya_sI e6 89 (426 + 6 * nb + 5) (nI Z.1)) 89 3 (nI (nb + 1)), ?_, by rw [ea]; exact pr_rS_w (pr_rS_w F2 _ _) _ _, T.1, W.1, P.1, F.1, O.1, Z.1, by rw [ea], by rw [pr_fe, q6]⟩
  rw [f_X12_readBuyer, pr_d3, pb_s, hs, A1, ya_b2s, pr_426, pn_wI (by omega) (by omega), pb_s, B1, ya_b2s, nI_1, pn_wI (by omega) (by omega), pb_s, C1, ya_b2s, pr_p2, pn_wI (by omega) (by omega), pb_s, pr_d0, pb_s, y3, D1, ya_b2s, pr_p3, pn_wI (by omega) (by omega), pb_s, pn_rI (by omega) (by omega), pb_s, pr_d0, pb_s, y4, pn_e ⟨rfl, rfl⟩, E1, ya_b2s, pr_p4, pn_wI (by omega) (by omega), pb_s, F1, ya_b2s, pr_p5, pn_wI (by omega) (by omega), pb_s, pr_d3, pb_s, y6, nI_1, pr_w3, pb_s]
/-- was, old, grows -/
theorem pr_r2s (ht : pr_tr e0 n b) (h : pr_rS n b e0 e X) {m y r : Nat} (hm5 : m ≤ 5) (hy : e.1 89 0 = nI y) (hy5 : y ≤ 20) (hr : r ≤ 326) : ∃ e', f_X12_readOn (nI r) (nI m) e = some e' ∧ pr_rS n b e0 e' (pr_a2 n b m y X).2 ∧ ∀ i, (pr_a2 n b m y X).2 = .inr i → ∃ t d v, (pr_a2 n b m y X).1 = [t, d, v] ∧ e'.1 89 = pr_f (e.1 89) (r + (20 * t + d)) (nI v) := by
  obtain ⟨T, eT⟩ : ∃ T, T = pr_tn n b 0 m X := ⟨_, rfl⟩
  obtain ⟨D, eD⟩ : ∃ D, D = pr_tn n b 0 y (pr_tw n b ps_on T.2) := ⟨_, rfl⟩
  obtain ⟨V, eV⟩ : ∃ V, V = pr_tn n b 0 100 D.2 := ⟨_, rfl⟩
  have ea : pr_a2 n b m y X = ([T.1, D.1, V.1], V.2) := by rw [eV, eD, eT]; rfl
  obtain ⟨e1, A1, A2, A3⟩ := pr_number ht h (lo := 0) (hi := m) (L := 0) (H := nI m - 1) rfl (by omega) (by omega) (pr_m1I (by omega))
  rw [← eT] at A1 A2
  obtain ⟨e2, B1, B2, B3⟩ := pr_told ht A2 (q := 19) (lo := 0) (hi := y) (w := ps_on) (L := 0) (H := nI y - 1) (by decide +kernel) rfl (by omega) (by omega) (pr_m1I (by omega))
  rw [← eD] at B1 B2
  obtain ⟨e3, C1, C2, C3⟩ := pr_number ht B2 (lo := 0) (hi := 100) (L := 0) (H := 99) rfl (by omega) (by omega) pr_H99
  rw [← eV] at C1 C2
  have hy1 : e1.1 89 0 = nI y := by rw [A3, hy]
  have hg : f_X12_readOn (nI r) (nI m) e = (f_X12_good e3).bind fun x36 =>
      if x36 = 0 then
        some e3
      else
      (f_X12_at (nI T.1) (nI D.1)).bind fun x50 =>
      (ya_wI e3 89 468 (nI r + x50) (nI V.1)).bind fun d56 =>
      some d56 := by
    rw [f_X12_readOn, A1, ya_b2s, pr_d0, pb_s, hy1, B1, ya_b2s, C1, ya_b2s]
  rw [hg, ea, pr_good]
  obtain ⟨Q, hQ⟩ : ∃ Q, Q = V.2 := ⟨_, rfl⟩
  cases Q with
  | inl f =>
    rw [← hQ] at C2
    rw [← hQ, if_neg (pr_bad C2), pb_s, if_pos rfl]
    exact ⟨e3, rfl, C2, fun i hi => by cases hi⟩
  | inr i =>
    rw [← hQ] at C2
    obtain ⟨i1, g1, -, -, -⟩ := pr_tn_g (n := n) (b := b) (lo := 0) (hi := 100) (X := D.2) (j := i) (by rw [← eV]; exact hQ.symm)
    obtain ⟨i2, g2, -, g3, -⟩ := pr_tn_g (n := n) (b := b) (lo := 0) (hi := y) (X := pr_tw n b ps_on T.2) (j := i1) (by rw [← eD]; exact g1)
    obtain ⟨i3, g4, -⟩ := pr_tw_g (n := n) (b := b) (w := ps_on) (X := T.2) (j := i2) (by decide) g2
    obtain ⟨i4, g5, -, g6, -⟩ := pr_tn_g (n := n) (b := b) (lo := 0) (hi := m) (X := X) (j := i3) (by rw [← eT]; exact g4)
    rw [← eD] at g3
    rw [← eT] at g6
    rw [if_pos C2.2.1, pb_s, if_neg pn_10, pm_cell2, pb_s, nI_add, pn_wI (by omega) (by omega), pb_s]
    exact ⟨_, rfl, by rw [← hQ]; exact pr_rS_w C2 _ _, fun j hj => ⟨T.1, D.1, V.1, rfl, by rw [pr_fe, C3, B3, A3]⟩⟩
/-- a thing -/
theorem pr_r1s (ht : pr_tr e0 n b) (h : pr_rS n b e0 e X) {nt : Nat} (hm : e.1 89 1 = nI nt) (hm5 : nt < 5) : ∃ e', f_X12_readThing e = some e' ∧ pr_rS n b e0 e' (pr_a1 n b X).2 ∧ ∃ p k, (pr_a1 n b X).1 = [p, k] ∧ e'.1 89 1 = nI (nt + 1) ∧ e'.1 89 (6 + nt) = nI k ∧ (∀ t, t < 20 → e'.1 89 (11 + (20 * nt + t)) = nI p ∧ e'.1 89 (111 + (20 * nt + t)) = nI p ∧ e'.1 89 (211 + (20 * nt + t)) = -1) ∧ ∀ z, z ≠ 1 → z ≠ 6 + nt → (z < 11 + 20 * nt ∨ 31 + 20 * nt ≤ z) → (z < 111 + 20 * nt ∨ 131 + 20 * nt ≤ z) → (z < 211 + 20 * nt ∨ 231 + 20 * nt ≤ z) → e'.1 89 z = e.1 89 z := by
  obtain ⟨P, eP⟩ : ∃ P, P = pr_tn n b 0 100 (pr_tw n b ps_price X) := ⟨_, rfl⟩
  obtain ⟨K, eK⟩ : ∃ K, K = pr_tn n b 0 31 (pr_tw n b ps_keeps P.2) := ⟨_, rfl⟩
  have ea : pr_a1 n b X = ([P.1, K.1], K.2) := by rw [eK, eP]; rfl
  obtain ⟨e1, A1, A2, A3⟩ := pr_told ht h (q := 17) (lo := 0) (hi := 100) (w := ps_price) (L := 0) (H := 99) (by decide +kernel) rfl (by omega) (by omega) pr_H99
  rw [← eP] at A1 A2
  obtain ⟨e2, B1, B2, B3⟩ := pr_told ht A2 (q := 18) (lo := 0) (hi := 31) (w := ps_keeps) (L := 0) (H := 30) (by decide +kernel) rfl (by omega) (by omega) pr_H30
  rw [← eK] at B1 B2
  obtain ⟨g, hg⟩ : ∃ g, g = ya_sI e2 89 (6 + nt) (nI K.1) := ⟨_, rfl⟩
  have gS : pr_rS n b e0 g K.2 := by rw [hg]; exact pr_rS_w B2 _ _
  have gF : g.1 89 = pr_f (e.1 89) (6 + nt) (nI K.1) := by rw [hg, pr_fe, B3, A3]
  have key := pq_lp (G := fun fu i (s : ya_D) => f_X12_readThing_L37 (nI nt) (nI P.1) (fun (d_92 : ya_D) =>
    (ya_rI d_92 89 468 1).bind fun x98 =>
    (ya_wI d_92 89 468 1 (x98 + 1)).bind fun d101 =>
    some d101) fu (nI i) s) (E := fun (d_92 : ya_D) =>
    (ya_rI d_92 89 468 1).bind fun x98 =>
    (ya_wI d_92 89 468 1 (x98 + 1)).bind fun d101 =>
    some d101) (n := 20)
    (I := fun i s => pr_rS n b e0 s K.2 ∧ (∀ t, t < i → s.1 89 (11 + (20 * nt + t)) = nI P.1 ∧ s.1 89 (111 + (20 * nt + t)) = nI P.1 ∧ s.1 89 (211 + (20 * nt + t)) = -1) ∧ ∀ z, (z < 11 + 20 * nt ∨ 31 + 20 * nt ≤ z) → (z < 111 + 20 * nt ∨ 131 + 20 * nt ≤ z) → (z < 211 + 20 * nt ∨ 231 + 20 * nt ≤ z) → s.1 89 z = g.1 89 z)
    (Q := fun s => pr_rS n b e0 s K.2 ∧ (∀ t, t < 20 → s.1 89 (11 + (20 * nt + t)) = nI P.1 ∧ s.1 89 (111 + (20 * nt + t)) = nI P.1 ∧ s.1 89 (211 + (20 * nt + t)) = -1) ∧ ∀ z, (z < 11 + 20 * nt ∨ 31 + 20 * nt ≤ z) → (z < 111 + 20 * nt ∨ 131 + 20 * nt ≤ z) → (z < 211 + 20 * nt ∨ 231 + 20 * nt ≤ z) → s.1 89 z = g.1 89 z)
    (fun fu s hs => ⟨s, hs, by
      rw [f_X12_readThing_L37, if_pos (by decide)]⟩)
    (fun fu i s hi hs => Or.inr ⟨ya_sI (ya_sI (ya_sI s 89 (11 + (20 * nt + i)) (nI P.1)) 89 (111 + (20 * nt + i)) (nI P.1)) 89 (211 + (20 * nt + i)) (-1), ⟨pr_rS_w (pr_rS_w (pr_rS_w hs.1 _ _) _ _) _ _, fun t ht => by
        by_cases c : t = i
        · subst c
          exact ⟨by rw [pn_o (by omega), pn_o (by omega)]; exact pn_e ⟨rfl, rfl⟩, by rw [pn_o (by omega)]; exact pn_e ⟨rfl, rfl⟩, pn_e ⟨rfl, rfl⟩⟩
        · obtain ⟨a1, a2, a3⟩ := hs.2.1 t (by omega)
          exact ⟨by rw [pn_o (by omega), pn_o (by omega), pn_o (by omega)]; exact a1, by rw [pn_o (by omega), pn_o (by omega), pn_o (by omega)]; exact a2, by rw [pn_o (by omega), pn_o (by omega), pn_o (by omega)]; exact a3⟩, fun z z1 z2 z3 => by
        rw [pn_o (by omega), pn_o (by omega), pn_o (by omega)]; exact hs.2.2 z z1 z2 z3⟩, by
      rw [f_X12_readThing_L37, if_neg (by rw [show (20 : Int32) = nI 20 from rfl, pn_le (by omega) (by omega)]; omega), pm_cell2, pb_s, show (11 : Int32) = nI 11 from rfl, nI_add, pn_wI (by omega) (by omega), pb_s, pb_s, show (111 : Int32) = nI 111 from rfl, nI_add, pn_wI (by omega) (by omega), pb_s, pb_s, show (211 : Int32) = nI 211 from rfl, nI_add, pn_wI (by omega) (by omega), pb_s, nI_1]⟩)
  obtain ⟨s, ⟨k1, k2, k3⟩, k4⟩ := key ya_F 0 g (by omega) (by rw [ya_F]; omega) ⟨gS, fun t ht => absurd ht (Nat.not_lt_zero t), fun _ _ _ _ => rfl⟩
  have s1 : s.1 89 1 = nI nt := by
    rw [k3 1 (by omega) (by omega) (by omega), gF, pr_f, if_neg (by omega), hm]
  refine ⟨ya_sI s 89 1 (nI (nt + 1)), ?_, by rw [ea]; exact pr_rS_w k1 _ _, P.1, K.1, by rw [ea], pn_e ⟨rfl, rfl⟩, ?_, fun t ht => ?_, fun z z1 z2 z3 z4 z5 => ?_⟩
  · rw [f_X12_readThing, pr_d1, pb_s, hm, A1, ya_b2s, B1, ya_b2s, pr_p6, pn_wI (by omega) (by omega), pb_s, ← hg]
    refine k4.trans ?_
    rw [pr_d1, pb_s, s1, nI_1, pr_w1, pb_s]
  · rw [pn_o (by omega), k3 _ (by omega) (by omega) (by omega), gF, pr_f, if_pos rfl]
  · obtain ⟨a1, a2, a3⟩ := k2 t ht
    exact ⟨by rw [pn_o (by omega)]; exact a1, by rw [pn_o (by omega)]; exact a2, by rw [pn_o (by omega)]; exact a3⟩
  · rw [pn_o (by omega), k3 z z3 z4 z5, gF, pr_f, if_neg z2]
end
