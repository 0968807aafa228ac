/-! Market: the eight forms -/
abbrev ps_market : List Nat := [109, 97, 114, 107, 101, 116]
abbrev ps_thing : List Nat := [116, 104, 105, 110, 103]
abbrev ps_was : List Nat := [119, 97, 115]
abbrev ps_old : List Nat := [111, 108, 100]
abbrev ps_seller : List Nat := [115, 101, 108, 108, 101, 114]
abbrev ps_grows : List Nat := [103, 114, 111, 119, 115]
abbrev ps_buyer : List Nat := [98, 117, 121, 101, 114]
abbrev ps_cap : List Nat := [99, 97, 112]
abbrev ps_days : List Nat := [100, 97, 121, 115]
abbrev ps_price : List Nat := [112, 114, 105, 99, 101]
abbrev ps_keeps : List Nat := [107, 101, 101, 112, 115]
abbrev ps_on : List Nat := [111, 110]
abbrev ps_has : List Nat := [104, 97, 115]
abbrev ps_asks : List Nat := [97, 115, 107, 115]
abbrev ps_wants : List Nat := [119, 97, 110, 116, 115]
abbrev ps_pays : List Nat := [112, 97, 121, 115]
abbrev ps_from : List Nat := [102, 114, 111, 109]
abbrev ps_to : List Nat := [116, 111]
abbrev ps_stores : List Nat := [115, 116, 111, 114, 101, 115]
abbrev ps_semi : List Nat := [59]
/-- the numbers of a line, and where it comes to ahead of its last sign -/
def pr_a0 (n : Nat) (b : Nat → Nat) (X : pr_X) : List Nat × pr_X := (fun y => ([y.1], y.2)) (pr_tn n b 4 21 (pr_tw n b ps_days X))
def pr_a1 (n : Nat) (b : Nat → Nat) (X : pr_X) : List Nat × pr_X := (fun p => (fun k => ([p.1, k.1], k.2)) (pr_tn n b 0 31 (pr_tw n b ps_keeps p.2))) (pr_tn n b 0 100 (pr_tw n b ps_price X))
def pr_a2 (n : Nat) (b : Nat → Nat) (m y : Nat) (X : pr_X) : List Nat × pr_X := (fun t => (fun d => (fun v => ([t.1, d.1, v.1], v.2)) (pr_tn n b 0 100 d.2)) (pr_tn n b 0 y (pr_tw n b ps_on t.2))) (pr_tn n b 0 m X)
def pr_a4 (n : Nat) (b : Nat → Nat) (m : Nat) (X : pr_X) : List Nat × pr_X := (fun t => (fun h => (fun a => ([t.1, h.1, a.1], a.2)) (pr_tn n b 0 100 (pr_tw n b ps_asks h.2))) (pr_tn n b 0 100 (pr_tw n b ps_has t.2))) (pr_tn n b 0 m X)
def pr_a6 (n : Nat) (b : Nat → Nat) (m y : Nat) (X : pr_X) : List Nat × pr_X := (fun t => (fun w => (fun p => (fun f => (fun o => (fun s => ([t.1, w.1, p.1, f.1, o.1, s.1], s.2)) (pr_tn n b 0 31 (pr_tw n b ps_stores o.2))) (pr_tn n b f.1 y (pr_tw n b ps_to f.2))) (pr_tn n b 0 y (pr_tw n b ps_from p.2))) (pr_tn n b 0 100 (pr_tw n b ps_pays w.2))) (pr_tn n b 1 10 (pr_tw n b ps_wants t.2))) (pr_tn n b 0 m X)
def pr_a7 (n : Nat) (b : Nat → Nat) (X : pr_X) : List Nat × pr_X := (fun v => ([v.1], v.2)) (pr_tn n b 0 100 X)
section
variable {n : Nat} {b : Nat → Nat} {d0 d e0 e : ya_D} {X : pr_X} {l : List Nat}
theorem pr_h84 (d : ya_D) : f_X3_highestOf (nI 84) d = some ((d.1 5 0) - 1) := rfl
theorem pr_h83 (d : ya_D) : f_X3_highestOf (nI 83) d = some ((d.1 10 0) - 1) := rfl
theorem pr_h68 (d : ya_D) : f_X3_highestOf (nI 68) d = some ((d.1 4 1) - 1) := rfl
theorem pr_h76 (d : ya_D) : f_X3_highestOf (nI 76) d = some ((d.1 4 1) - 1) := rfl
theorem pr_h78 (d : ya_D) : f_X3_highestOf (nI 78) d = some 99 := rfl
theorem pr_h75 (d : ya_D) : f_X3_highestOf (nI 75) d = some 30 := rfl
theorem pr_h89 (d : ya_D) : f_X3_highestOf (nI 89) d = some 20 := rfl
theorem pr_h87 (d : ya_D) : f_X3_highestOf (nI 87) d = some 9 := rfl
theorem pr_l84 (d : ya_D) : f_X3_lowestOf (nI 84) d = some (nI 0) := rfl
theorem pr_l83 (d : ya_D) : f_X3_lowestOf (nI 83) d = some (nI 0) := rfl
theorem pr_l68 (d : ya_D) : f_X3_lowestOf (nI 68) d = some (nI 0) := rfl
theorem pr_l78 (d : ya_D) : f_X3_lowestOf (nI 78) d = some (nI 0) := rfl
theorem pr_l75 (d : ya_D) : f_X3_lowestOf (nI 75) d = some (nI 0) := rfl
theorem pr_l89 (d : ya_D) : f_X3_lowestOf (nI 89) d = some (nI 4) := rfl
theorem pr_l87 (d : ya_D) : f_X3_lowestOf (nI 87) d = some (nI 1) := rfl
theorem pr_l76 {d : ya_D} (h : d.1 3 3 = nI 4) : f_X3_lowestOf (nI 76) d = some (d.1 23 3) := by
  rw [f_X3_lowestOf, if_pos (show nI 76 = 76 from rfl), h, if_neg (by decide), show nI 4 - 1 = nI 3 by decide, pn_rI (by omega) (by omega), pb_s]
theorem pr_m1I {m : Nat} (h : m ≤ 100) : (nI m - 1).toInt = (m : Int) - 1 := by
  rw [Int32.toInt_sub, nI_toInt (by omega), show (1 : Int32).toInt = 1 from by decide, Int.bmod_def]
  omega
theorem pr_tn_le (lo hi : Nat) (X : pr_X) : (pr_tn n b lo hi X).1 ≤ hi := by
  cases X with
  | inl f => exact Nat.zero_le _
  | inr i =>
    rw [pr_tn]
    by_cases c : pr_k n b i = 2
    · rw [if_pos c]
      by_cases c2 : lo ≤ pr_V n b i ∧ pr_V n b i < hi
      · rw [if_pos c2]; exact Nat.le_of_lt c2.2
      · rw [if_neg c2]; exact Nat.zero_le _
    · rw [if_neg c]; exact Nat.zero_le _
theorem pr_form {q x0 : Nat} (hx : ya_sx q 32 = some (nI x0)) : f_X3_readForm q d = f_X3_readForm_L17 q ya_F (nI (x0 + 1)) (nI (x0 + 1)) (ya_sI d 3 3 0) := by
  rw [f_X3_readForm, pb_pI, pb_s, hx, pb_s, nI_1]
theorem pr_f0 (ht : pr_tp d0 n b) (h : pr_cS n d0 d [] X) : ∃ d', pr_cS n d0 d' (pr_a0 n b X).1 (pr_tw n b ps_semi (pr_a0 n b X).2) ∧ f_X3_readForm_L17 0 ya_F (nI 7) (nI 7) d = some d' := by
  obtain ⟨d1, h1, e1⟩ := pr_cw (q := 0) (x := 7) (w := ps_days) (fu := ya_F) ht h (by decide +kernel) (by decide +kernel)
  obtain ⟨d2, h2, e2⟩ := pr_cn (q := 0) (x := (7 + ps_days.length + 1)) (c := 89) (fu := (ya_F - (ps_days.length + 1))) (lo := 4) (hi := 21) (H := 20) ht h1 (by decide +kernel) (by decide +kernel) (by simp) (by omega) (by omega) (fun d' z => pr_l89 d') (fun d' z => pr_h89 d') (by decide)
  obtain ⟨d3, h3, e3⟩ := pr_cw (q := 0) (x := ((7 + ps_days.length + 1) + 2)) (w := ps_semi) (fu := ((ya_F - (ps_days.length + 1)) - 2)) ht h2 (by decide +kernel) (by decide +kernel)
  exact ⟨d3, h3, (e1.trans (e2.trans (e3.trans (pr_L17e (by decide) (by decide +kernel) (by decide +kernel)))))⟩
theorem pr_f1 (ht : pr_tp d0 n b) (h : pr_cS n d0 d [] X) : ∃ d', pr_cS n d0 d' (pr_a1 n b X).1 (pr_tw n b ps_semi (pr_a1 n b X).2) ∧ f_X3_readForm_L17 1 ya_F (nI 6) (nI 6) d = some d' := by
  obtain ⟨d1, h1, e1⟩ := pr_cw (q := 1) (x := 6) (w := ps_price) (fu := ya_F) ht h (by decide +kernel) (by decide +kernel)
  obtain ⟨d2, h2, e2⟩ := pr_cn (q := 1) (x := (6 + ps_price.length + 1)) (c := 78) (fu := (ya_F - (ps_price.length + 1))) (lo := 0) (hi := 100) (H := 99) ht h1 (by decide +kernel) (by decide +kernel) (by simp) (by omega) (by omega) (fun d' z => pr_l78 d') (fun d' z => pr_h78 d') (by decide)
  obtain ⟨d3, h3, e3⟩ := pr_cw (q := 1) (x := ((6 + ps_price.length + 1) + 2)) (w := ps_keeps) (fu := ((ya_F - (ps_price.length + 1)) - 2)) ht h2 (by decide +kernel) (by decide +kernel)
  obtain ⟨d4, h4, e4⟩ := pr_cn (q := 1) (x := (((6 + ps_price.length + 1) + 2) + ps_keeps.length + 1)) (c := 75) (fu := (((ya_F - (ps_price.length + 1)) - 2) - (ps_keeps.length + 1))) (lo := 0) (hi := 31) (H := 30) ht h3 (by decide +kernel) (by decide +kernel) (by simp) (by omega) (by omega) (fun d' z => pr_l75 d') (fun d' z => pr_h75 d') (by decide)
  obtain ⟨d5, h5, e5⟩ := pr_cw (q := 1) (x := ((((6 + ps_price.length + 1) + 2) + ps_keeps.length + 1) + 2)) (w := ps_semi) (fu := ((((ya_F - (ps_price.length + 1)) - 2) - (ps_keeps.length + 1)) - 2)) ht h4 (by decide +kernel) (by decide +kernel)
  exact ⟨d5, h5, (e1.trans (e2.trans (e3.trans (e4.trans (e5.trans (pr_L17e (by decide) (by decide +kernel) (by decide +kernel)))))))⟩
theorem pr_f2 (ht : pr_tp d0 n b) {nt : Nat} {y : Nat} (h : pr_cS n d0 d [] X) (hm : d0.1 5 0 = nI nt) (hm5 : nt ≤ 5) (hy : d0.1 4 1 = nI y) (hy5 : y ≤ 20) : ∃ d', pr_cS n d0 d' (pr_a2 n b nt y X).1 (pr_tw n b ps_semi (pr_a2 n b nt y X).2) ∧ f_X3_readForm_L17 2 ya_F (nI 4) (nI 4) d = some d' := by
  obtain ⟨d1, h1, e1⟩ := pr_cn (q := 2) (x := 4) (c := 84) (fu := ya_F) (lo := 0) (hi := nt) (H := (nI nt - 1)) ht h (by decide +kernel) (by decide +kernel) (by simp) (by omega) (by omega) (fun d' z => pr_l84 d') (fun d' z => by rw [pr_h84, z.1.2 _ _ (by omega) (by omega) (by omega), hm]) (pr_m1I (by omega))
  obtain ⟨d2, h2, e2⟩ := pr_cw (q := 2) (x := (4 + 2)) (w := ps_on) (fu := (ya_F - 2)) ht h1 (by decide +kernel) (by decide +kernel)
  obtain ⟨d3, h3, e3⟩ := pr_cn (q := 2) (x := ((4 + 2) + ps_on.length + 1)) (c := 68) (fu := ((ya_F - 2) - (ps_on.length + 1))) (lo := 0) (hi := y) (H := (nI y - 1)) ht h2 (by decide +kernel) (by decide +kernel) (by simp) (by omega) (by omega) (fun d' z => pr_l68 d') (fun d' z => by rw [pr_h68, z.1.2 _ _ (by omega) (by omega) (by omega), hy]) (pr_m1I (by omega))
  obtain ⟨d4, h4, e4⟩ := pr_cn (q := 2) (x := (((4 + 2) + ps_on.length + 1) + 2)) (c := 78) (fu := (((ya_F - 2) - (ps_on.length + 1)) - 2)) (lo := 0) (hi := 100) (H := 99) ht h3 (by decide +kernel) (by decide +kernel) (by simp) (by omega) (by omega) (fun d' z => pr_l78 d') (fun d' z => pr_h78 d') (by decide)
  obtain ⟨d5, h5, e5⟩ := pr_cw (q := 2) (x := ((((4 + 2) + ps_on.length + 1) + 2) + 2)) (w := ps_semi) (fu := ((((ya_F - 2) - (ps_on.length + 1)) - 2) - 2)) ht h4 (by decide +kernel) (by decide +kernel)
  exact ⟨d5, h5, (e1.trans (e2.trans (e3.trans (e4.trans (e5.trans (pr_L17e (by decide) (by decide +kernel) (by decide +kernel)))))))⟩
theorem pr_f3 (ht : pr_tp d0 n b) {nt : Nat} {y : Nat} (h : pr_cS n d0 d [] X) (hm : d0.1 5 0 = nI nt) (hm5 : nt ≤ 5) (hy : d0.1 4 1 = nI y) (hy5 : y ≤ 20) : ∃ d', pr_cS n d0 d' (pr_a2 n b nt y X).1 (pr_tw n b ps_semi (pr_a2 n b nt y X).2) ∧ f_X3_readForm_L17 3 ya_F (nI 4) (nI 4) d = some d' := by
  obtain ⟨d1, h1, e1⟩ := pr_cn (q := 3) (x := 4) (c := 84) (fu := ya_F) (lo := 0) (hi := nt) (H := (nI nt - 1)) ht h (by decide +kernel) (by decide +kernel) (by simp) (by omega) (by omega) (fun d' z => pr_l84 d') (fun d' z => by rw [pr_h84, z.1.2 _ _ (by omega) (by omega) (by omega), hm]) (pr_m1I (by omega))
  obtain ⟨d2, h2, e2⟩ := pr_cw (q := 3) (x := (4 + 2)) (w := ps_on) (fu := (ya_F - 2)) ht h1 (by decide +kernel) (by decide +kernel)
  obtain ⟨d3, h3, e3⟩ := pr_cn (q := 3) (x := ((4 + 2) + ps_on.length + 1)) (c := 68) (fu := ((ya_F - 2) - (ps_on.length + 1))) (lo := 0) (hi := y) (H := (nI y - 1)) ht h2 (by decide +kernel) (by decide +kernel) (by simp) (by omega) (by omega) (fun d' z => pr_l68 d') (fun d' z => by rw [pr_h68, z.1.2 _ _ (by omega) (by omega) (by omega), hy]) (pr_m1I (by omega))
  obtain ⟨d4, h4, e4⟩ := pr_cn (q := 3) (x := (((4 + 2) + ps_on.length + 1) + 2)) (c := 78) (fu := (((ya_F - 2) - (ps_on.length + 1)) - 2)) (lo := 0) (hi := 100) (H := 99) ht h3 (by decide +kernel) (by decide +kernel) (by simp) (by omega) (by omega) (fun d' z => pr_l78 d') (fun d' z => pr_h78 d') (by decide)
  obtain ⟨d5, h5, e5⟩ := pr_cw (q := 3) (x := ((((4 + 2) + ps_on.length + 1) + 2) + 2)) (w := ps_semi) (fu := ((((ya_F - 2) - (ps_on.length + 1)) - 2) - 2)) ht h4 (by decide +kernel) (by decide +kernel)
  exact ⟨d5, h5, (e1.trans (e2.trans (e3.trans (e4.trans (e5.trans (pr_L17e (by decide) (by decide +kernel) (by decide +kernel)))))))⟩
theorem pr_f4 (ht : pr_tp d0 n b) {nt : Nat} (h : pr_cS n d0 d [] X) (hm : d0.1 5 0 = nI nt) (hm5 : nt ≤ 5) : ∃ d', pr_cS n d0 d' (pr_a4 n b nt X).1 (pr_tw n b ps_semi (pr_a4 n b nt X).2) ∧ f_X3_readForm_L17 4 ya_F (nI 7) (nI 7) d = some d' := by
  obtain ⟨d1, h1, e1⟩ := pr_cn (q := 4) (x := 7) (c := 84) (fu := ya_F) (lo := 0) (hi := nt) (H := (nI nt - 1)) ht h (by decide +kernel) (by decide +kernel) (by simp) (by omega) (by omega) (fun d' z => pr_l84 d') (fun d' z => by rw [pr_h84, z.1.2 _ _ (by omega) (by omega) (by omega), hm]) (pr_m1I (by omega))
  obtain ⟨d2, h2, e2⟩ := pr_cw (q := 4) (x := (7 + 2)) (w := ps_has) (fu := (ya_F - 2)) ht h1 (by decide +kernel) (by decide +kernel)
  obtain ⟨d3, h3, e3⟩ := pr_cn (q := 4) (x := ((7 + 2) + ps_has.length + 1)) (c := 78) (fu := ((ya_F - 2) - (ps_has.length + 1))) (lo := 0) (hi := 100) (H := 99) ht h2 (by decide +kernel) (by decide +kernel) (by simp) (by omega) (by omega) (fun d' z => pr_l78 d') (fun d' z => pr_h78 d') (by decide)
  obtain ⟨d4, h4, e4⟩ := pr_cw (q := 4) (x := (((7 + 2) + ps_has.length + 1) + 2)) (w := ps_asks) (fu := (((ya_F - 2) - (ps_has.length + 1)) - 2)) ht h3 (by decide +kernel) (by decide +kernel)
  obtain ⟨d5, h5, e5⟩ := pr_cn (q := 4) (x := ((((7 + 2) + ps_has.length + 1) + 2) + ps_asks.length + 1)) (c := 78) (fu := ((((ya_F - 2) - (ps_has.length + 1)) - 2) - (ps_asks.length + 1))) (lo := 0) (hi := 100) (H := 99) ht h4 (by decide +kernel) (by decide +kernel) (by simp) (by omega) (by omega) (fun d' z => pr_l78 d') (fun d' z => pr_h78 d') (by decide)
  obtain ⟨d6, h6, e6⟩ := pr_cw (q := 4) (x := (((((7 + 2) + ps_has.length + 1) + 2) + ps_asks.length + 1) + 2)) (w := ps_semi) (fu := (((((ya_F - 2) - (ps_has.length + 1)) - 2) - (ps_asks.length + 1)) - 2)) ht h5 (by decide +kernel) (by decide +kernel)
  exact ⟨d6, h6, (e1.trans (e2.trans (e3.trans (e4.trans (e5.trans (e6.trans (pr_L17e (by decide) (by decide +kernel) (by decide +kernel))))))))⟩
theorem pr_f5 (ht : pr_tp d0 n b) {ns : Nat} {y : Nat} (h : pr_cS n d0 d [] X) (hm : d0.1 10 0 = nI ns) (hm5 : ns ≤ 5) (hy : d0.1 4 1 = nI y) (hy5 : y ≤ 20) : ∃ d', pr_cS n d0 d' (pr_a2 n b ns y X).1 (pr_tw n b ps_semi (pr_a2 n b ns y X).2) ∧ f_X3_readForm_L17 5 ya_F (nI 6) (nI 6) d = some d' := by
  obtain ⟨d1, h1, e1⟩ := pr_cn (q := 5) (x := 6) (c := 83) (fu := ya_F) (lo := 0) (hi := ns) (H := (nI ns - 1)) ht h (by decide +kernel) (by decide +kernel) (by simp) (by omega) (by omega) (fun d' z => pr_l83 d') (fun d' z => by rw [pr_h83, z.1.2 _ _ (by omega) (by omega) (by omega), hm]) (pr_m1I (by omega))
  obtain ⟨d2, h2, e2⟩ := pr_cw (q := 5) (x := (6 + 2)) (w := ps_on) (fu := (ya_F - 2)) ht h1 (by decide +kernel) (by decide +kernel)
  obtain ⟨d3, h3, e3⟩ := pr_cn (q := 5) (x := ((6 + 2) + ps_on.length + 1)) (c := 68) (fu := ((ya_F - 2) - (ps_on.length + 1))) (lo := 0) (hi := y) (H := (nI y - 1)) ht h2 (by decide +kernel) (by decide +kernel) (by simp) (by omega) (by omega) (fun d' z => pr_l68 d') (fun d' z => by rw [pr_h68, z.1.2 _ _ (by omega) (by omega) (by omega), hy]) (pr_m1I (by omega))
  obtain ⟨d4, h4, e4⟩ := pr_cn (q := 5) (x := (((6 + 2) + ps_on.length + 1) + 2)) (c := 78) (fu := (((ya_F - 2) - (ps_on.length + 1)) - 2)) (lo := 0) (hi := 100) (H := 99) ht h3 (by decide +kernel) (by decide +kernel) (by simp) (by omega) (by omega) (fun d' z => pr_l78 d') (fun d' z => pr_h78 d') (by decide)
  obtain ⟨d5, h5, e5⟩ := pr_cw (q := 5) (x := ((((6 + 2) + ps_on.length + 1) + 2) + 2)) (w := ps_semi) (fu := ((((ya_F - 2) - (ps_on.length + 1)) - 2) - 2)) ht h4 (by decide +kernel) (by decide +kernel)
  exact ⟨d5, h5, (e1.trans (e2.trans (e3.trans (e4.trans (e5.trans (pr_L17e (by decide) (by decide +kernel) (by decide +kernel)))))))⟩
theorem pr_f6 (ht : pr_tp d0 n b) {nt : Nat} {y : Nat} (h : pr_cS n d0 d [] X) (hm : d0.1 5 0 = nI nt) (hm5 : nt ≤ 5) (hy : d0.1 4 1 = nI y) (hy5 : y ≤ 20) : ∃ d', pr_cS n d0 d' (pr_a6 n b nt y X).1 (pr_tw n b ps_semi (pr_a6 n b nt y X).2) ∧ f_X3_readForm_L17 6 ya_F (nI 6) (nI 6) d = some d' := by
  obtain ⟨d1, h1, e1⟩ := pr_cn (q := 6) (x := 6) (c := 84) (fu := ya_F) (lo := 0) (hi := nt) (H := (nI nt - 1)) ht h (by decide +kernel) (by decide +kernel) (by simp) (by omega) (by omega) (fun d' z => pr_l84 d') (fun d' z => by rw [pr_h84, z.1.2 _ _ (by omega) (by omega) (by omega), hm]) (pr_m1I (by omega))
  obtain ⟨d2, h2, e2⟩ := pr_cw (q := 6) (x := (6 + 2)) (w := ps_wants) (fu := (ya_F - 2)) ht h1 (by decide +kernel) (by decide +kernel)
  obtain ⟨d3, h3, e3⟩ := pr_cn (q := 6) (x := ((6 + 2) + ps_wants.length + 1)) (c := 87) (fu := ((ya_F - 2) - (ps_wants.length + 1))) (lo := 1) (hi := 10) (H := 9) ht h2 (by decide +kernel) (by decide +kernel) (by simp) (by omega) (by omega) (fun d' z => pr_l87 d') (fun d' z => pr_h87 d') (by decide)
  obtain ⟨d4, h4, e4⟩ := pr_cw (q := 6) (x := (((6 + 2) + ps_wants.length + 1) + 2)) (w := ps_pays) (fu := (((ya_F - 2) - (ps_wants.length + 1)) - 2)) ht h3 (by decide +kernel) (by decide +kernel)
  obtain ⟨d5, h5, e5⟩ := pr_cn (q := 6) (x := ((((6 + 2) + ps_wants.length + 1) + 2) + ps_pays.length + 1)) (c := 78) (fu := ((((ya_F - 2) - (ps_wants.length + 1)) - 2) - (ps_pays.length + 1))) (lo := 0) (hi := 100) (H := 99) ht h4 (by decide +kernel) (by decide +kernel) (by simp) (by omega) (by omega) (fun d' z => pr_l78 d') (fun d' z => pr_h78 d') (by decide)
  obtain ⟨d6, h6, e6⟩ := pr_cw (q := 6) (x := (((((6 + 2) + ps_wants.length + 1) + 2) + ps_pays.length + 1) + 2)) (w := ps_from) (fu := (((((ya_F - 2) - (ps_wants.length + 1)) - 2) - (ps_pays.length + 1)) - 2)) ht h5 (by decide +kernel) (by decide +kernel)
  obtain ⟨d7, h7, e7⟩ := pr_cn (q := 6) (x := ((((((6 + 2) + ps_wants.length + 1) + 2) + ps_pays.length + 1) + 2) + ps_from.length + 1)) (c := 68) (fu := ((((((ya_F - 2) - (ps_wants.length + 1)) - 2) - (ps_pays.length + 1)) - 2) - (ps_from.length + 1))) (lo := 0) (hi := y) (H := (nI y - 1)) ht h6 (by decide +kernel) (by decide +kernel) (by simp) (by omega) (by omega) (fun d' z => pr_l68 d') (fun d' z => by rw [pr_h68, z.1.2 _ _ (by omega) (by omega) (by omega), hy]) (pr_m1I (by omega))
  obtain ⟨d8, h8, e8⟩ := pr_cw (q := 6) (x := (((((((6 + 2) + ps_wants.length + 1) + 2) + ps_pays.length + 1) + 2) + ps_from.length + 1) + 2)) (w := ps_to) (fu := (((((((ya_F - 2) - (ps_wants.length + 1)) - 2) - (ps_pays.length + 1)) - 2) - (ps_from.length + 1)) - 2)) ht h7 (by decide +kernel) (by decide +kernel)
  obtain ⟨d9, h9, e9⟩ := pr_cn (q := 6) (x := ((((((((6 + 2) + ps_wants.length + 1) + 2) + ps_pays.length + 1) + 2) + ps_from.length + 1) + 2) + ps_to.length + 1)) (c := 76) (fu := ((((((((ya_F - 2) - (ps_wants.length + 1)) - 2) - (ps_pays.length + 1)) - 2) - (ps_from.length + 1)) - 2) - (ps_to.length + 1))) (lo := (pr_tn n b 0 y (pr_tw n b ps_from (pr_tn n b 0 100 (pr_tw n b ps_pays (pr_tn n b 1 10 (pr_tw n b ps_wants (pr_tn n b 0 nt X).2)).2)).2)).1) (hi := y) (H := (nI y - 1)) ht h8 (by decide +kernel) (by decide +kernel) (by simp) (Nat.le_trans (pr_tn_le _ _ _) (by omega)) (by omega) (fun d' z => (pr_l76 z.2.2.2.1).trans (congrArg some (z.2.2.2.2 3 (by simp)))) (fun d' z => by rw [pr_h76, z.1.2 _ _ (by omega) (by omega) (by omega), hy]) (pr_m1I (by omega))
  obtain ⟨d10, h10, e10⟩ := pr_cw (q := 6) (x := (((((((((6 + 2) + ps_wants.length + 1) + 2) + ps_pays.length + 1) + 2) + ps_from.length + 1) + 2) + ps_to.length + 1) + 2)) (w := ps_stores) (fu := (((((((((ya_F - 2) - (ps_wants.length + 1)) - 2) - (ps_pays.length + 1)) - 2) - (ps_from.length + 1)) - 2) - (ps_to.length + 1)) - 2)) ht h9 (by decide +kernel) (by decide +kernel)
  obtain ⟨d11, h11, e11⟩ := pr_cn (q := 6) (x := ((((((((((6 + 2) + ps_wants.length + 1) + 2) + ps_pays.length + 1) + 2) + ps_from.length + 1) + 2) + ps_to.length + 1) + 2) + ps_stores.length + 1)) (c := 75) (fu := ((((((((((ya_F - 2) - (ps_wants.length + 1)) - 2) - (ps_pays.length + 1)) - 2) - (ps_from.length + 1)) - 2) - (ps_to.length + 1)) - 2) - (ps_stores.length + 1))) (lo := 0) (hi := 31) (H := 30) ht h10 (by decide +kernel) (by decide +kernel) (by simp) (by omega) (by omega) (fun d' z => pr_l75 d') (fun d' z => pr_h75 d') (by decide)
  obtain ⟨d12, h12, e12⟩ := pr_cw (q := 6) (x := (((((((((((6 + 2) + ps_wants.length + 1) + 2) + ps_pays.length + 1) + 2) + ps_from.length + 1) + 2) + ps_to.length + 1) + 2) + ps_stores.length + 1) + 2)) (w := ps_semi) (fu := (((((((((((ya_F - 2) - (ps_wants.length + 1)) - 2) - (ps_pays.length + 1)) - 2) - (ps_from.length + 1)) - 2) - (ps_to.length + 1)) - 2) - (ps_stores.length + 1)) - 2)) ht h11 (by decide +kernel) (by decide +kernel)
  exact ⟨d12, h12, (e1.trans (e2.trans (e3.trans (e4.trans (e5.trans (e6.trans (e7.trans (e8.trans (e9.trans (e10.trans (e11.trans (e12.trans (pr_L17e (by decide) (by decide +kernel) (by decide +kernel))))))))))))))⟩
theorem pr_f7 (ht : pr_tp d0 n b) (h : pr_cS n d0 d [] X) : ∃ d', pr_cS n d0 d' (pr_a7 n b X).1 (pr_tw n b ps_semi (pr_a7 n b X).2) ∧ f_X3_readForm_L17 7 ya_F (nI 4) (nI 4) d = some d' := by
  obtain ⟨d1, h1, e1⟩ := pr_cn (q := 7) (x := 4) (c := 78) (fu := ya_F) (lo := 0) (hi := 100) (H := 99) ht h (by decide +kernel) (by decide +kernel) (by simp) (by omega) (by omega) (fun d' z => pr_l78 d') (fun d' z => pr_h78 d') (by decide)
  obtain ⟨d2, h2, e2⟩ := pr_cw (q := 7) (x := (4 + 2)) (w := ps_semi) (fu := (ya_F - 2)) ht h1 (by decide +kernel) (by decide +kernel)
  exact ⟨d2, h2, (e1.trans (e2.trans (pr_L17e (by decide) (by decide +kernel) (by decide +kernel))))⟩
end
