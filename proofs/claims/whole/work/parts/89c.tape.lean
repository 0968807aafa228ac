/-! The tape: feed, end, fault -/
/-- a byte of a word -/
def pt_b (w : Int32) (s : Nat) : Nat := (w.toBitVec.toNat >>> s) % 256
theorem pt_b_lt (w : Int32) (s : Nat) : pt_b w s < 256 := Nat.mod_lt _ (by decide)
theorem pt_c (w : Int32) (s : Int32) (k : Nat) (e : (s.toBitVec.toNat &&& 31) % 32 = k) : vp_nar .char ((((w.toUInt32 >>> (s.toUInt32 &&& Int32.toUInt32 31)).toInt32 &&& 255).toUInt32 % 65536).toInt32) = nI (pt_b w k) := by
  rw [vp_nar_char]
  apply Int32.toBitVec_inj.mp
  apply BitVec.eq_of_toNat_eq
  simp [pt_b, nI]
  rw [e, Nat.and_two_pow_sub_one_eq_mod _ 8]
  have := Nat.mod_lt (w.toBitVec.toNat >>> k) (show 0 < 256 by decide)
  rw [Nat.mod_eq_of_lt (show _ % 2 ^ 8 < 65536 by omega), Nat.mod_eq_of_lt (show _ % 256 < 4294967296 by omega)]
theorem pt_r (w : Int32) (s : Int32) (k : Nat) (hk : k ≤ 24) (e : (s.toBitVec.smod 32).toNat = k) : vp_nar .byte ((w >>> s).toInt8.toInt32) = (nI (pt_b w k)).toInt8.toInt32 := by
  rw [vp_nar_byte]
  apply congrArg
  apply Int8.toBitVec_inj.mp
  apply BitVec.eq_of_getElem_eq
  intro i hi
  simp [pt_b, nI, BitVec.getElem_signExtend]
  have e' : (BitVec.smod s.toBitVec 32#32).toNat = k := e
  rw [dif_pos (show i < 32 by omega), BitVec.getElem_sshiftRight, dif_pos (by omega)]
  simp only [e']
  rw [BitVec.getElem_eq_testBit_toNat, BitVec.getElem_eq_testBit_toNat, BitVec.toNat_ofNat, show (256 : Nat) = 2 ^ 8 from rfl, Nat.mod_mod, Nat.testBit_mod_two_pow, Nat.testBit_shiftRight]
  simp [hi]
/-- one byte fed by the class -/
theorem pt_s1 (w : Int32) (fu : Nat) (s : Int32) (k : Nat) (hs : ¬ s < 0) (e : (s.toBitVec.toNat &&& 31) % 32 = k) (d : ya_D) (n : Nat) (hn : n < 2000) (h : d.1 1 1 = nI n) : f_X7_addFour_L16 w (fu + 1) s d = f_X7_addFour_L16 w fu (s + (-8)) (ya_sI (ya_sI d 2 n (nI (pt_b w k))) 1 1 (nI (n + 1))) := by
  rw [f_X7_addFour_L16, if_neg hs, h, pn_wI hn (by omega), pb_s, pb_pI, pb_s, pt_c w s k e, pn_o (Or.inl (by decide)), h, nI_1]
theorem pt_four (w : Int32) (d : ya_D) (n : Nat) (hn : n + 4 ≤ 2000) (h : d.1 1 1 = nI n) : ∃ d', f_X7_addFour w d = some d' ∧ d'.2 = d.2 ∧ d'.1 1 1 = nI (n + 4) ∧ (∀ j, j < 4 → d'.1 2 (n + j) = nI (pt_b w (24 - 8 * j))) ∧ ∀ a k, (a ≠ 1 ∨ k ≠ 1) → (a ≠ 2 ∨ k < n ∨ n + 4 ≤ k) → d'.1 a k = d.1 a k := by
  obtain ⟨d1, hd1⟩ : ∃ d1, d1 = ya_sI (ya_sI d 2 n (nI (pt_b w 24))) 1 1 (nI (n + 1)) := ⟨_, rfl⟩
  obtain ⟨d2, hd2⟩ : ∃ d2, d2 = ya_sI (ya_sI d1 2 (n + 1) (nI (pt_b w 16))) 1 1 (nI (n + 2)) := ⟨_, rfl⟩
  obtain ⟨d3, hd3⟩ : ∃ d3, d3 = ya_sI (ya_sI d2 2 (n + 2) (nI (pt_b w 8))) 1 1 (nI (n + 3)) := ⟨_, rfl⟩
  obtain ⟨d4, hd4⟩ : ∃ d4, d4 = ya_sI (ya_sI d3 2 (n + 3) (nI (pt_b w 0))) 1 1 (nI (n + 4)) := ⟨_, rfl⟩
  have q1 : d1.1 1 1 = nI (n + 1) := by rw [hd1]; exact pn_e ⟨rfl, rfl⟩
  have q2 : d2.1 1 1 = nI (n + 2) := by rw [hd2]; exact pn_e ⟨rfl, rfl⟩
  have q3 : d3.1 1 1 = nI (n + 3) := by rw [hd3]; exact pn_e ⟨rfl, rfl⟩
  have q4 : d4.1 1 1 = nI (n + 4) := by rw [hd4]; exact pn_e ⟨rfl, rfl⟩
  refine ⟨d4, ?_, by rw [hd4, hd3, hd2, hd1]; rfl, q4, fun j hj => ?_, fun a k h1 h2 => ?_⟩
  · rw [f_X7_addFour, h, show (4 : Int32) = nI 4 from rfl, show (2000 : Int32) = nI 2000 from rfl, nI_add, if_pos ((nI_leI (by omega) (by omega)).2 hn), show ya_F = 9995 + 1 + 1 + 1 + 1 + 1 from rfl]
    rw [pt_s1 w _ 24 24 (by decide) (by decide) d n (by omega) h, ← hd1]
    rw [pt_s1 w _ (24 + -8) 16 (by decide) (by decide) d1 (n + 1) (by omega) q1, ← hd2]
    rw [pt_s1 w _ (24 + -8 + -8) 8 (by decide) (by decide) d2 (n + 2) (by omega) q2, ← hd3]
    rw [pt_s1 w _ (24 + -8 + -8 + -8) 0 (by decide) (by decide) d3 (n + 3) (by omega) q3, ← hd4]
    rw [f_X7_addFour_L16, if_pos (by decide)]
  · obtain rfl | rfl | rfl | rfl : j = 0 ∨ j = 1 ∨ j = 2 ∨ j = 3 := by omega
    · rw [hd4, pn_o (by omega), pn_o (by omega), hd3, pn_o (by omega), pn_o (by omega), hd2, pn_o (by omega), pn_o (by omega), hd1, pn_o (by omega), pn_e ⟨rfl, Nat.add_zero n⟩]
    · rw [hd4, pn_o (by omega), pn_o (by omega), hd3, pn_o (by omega), pn_o (by omega), hd2, pn_o (by omega), pn_e ⟨rfl, rfl⟩]
    · rw [hd4, pn_o (by omega), pn_o (by omega), hd3, pn_o (by omega), pn_e ⟨rfl, rfl⟩]
    · rw [hd4, pn_o (by omega), pn_e ⟨rfl, rfl⟩]
  · rw [hd4, pn_o (by omega), pn_o (by omega), hd3, pn_o (by omega), pn_o (by omega), hd2, pn_o (by omega), pn_o (by omega), hd1, pn_o (by omega), pn_o (by omega)]
/-- the tape's bytes, the class's and the reference's -/
def pt_T (d : ya_D) : Prop := ∃ (n : Nat) (b : Nat → Nat), n ≤ 2000 ∧ d.1 1 1 = nI n ∧ d.1 83 5 = nI n ∧ ∀ i, i < n → b i < 256 ∧ d.1 2 i = nI (b i) ∧ d.1 87 i = (nI (b i)).toInt8.toInt32
/-- what a call on the tape may change -/
def pt_F (d d' : ya_D) : Prop := d'.2 = d.2 ∧ ∀ a k, (a ≠ 1 ∨ k ≠ 1) → a ≠ 2 → a ≠ 87 → a ≠ 88 → (a ≠ 83 ∨ k ≠ 5) → d'.1 a k = d.1 a k
theorem pt_end {d : ya_D} (hT : pt_T d) (v : Int32) : ∃ r d1 d2, f_X11_end v d = some (r, d1) ∧ f_X12_end v d1 = some (r, d2) ∧ pt_T d2 ∧ pt_F d d2 := by
  obtain ⟨n, b, h1, h2, h3, h4⟩ := hT
  by_cases e : pn_ok v (n + 1)
  · obtain ⟨t, ht, ht3, rfl⟩ := pn_ok_ex e
    refine ⟨nI t, ya_sI d 1 1 (nI t), ya_sI (ya_sI d 1 1 (nI t)) 83 5 (nI t), ?_, ?_, ⟨t, b, by omega, ?_, ?_, fun i hi => ?_⟩, rfl, fun a k c1 c2 c3 c4 c5 => ?_⟩
    · rw [f_X11_end, if_neg (by rw [show (0 : Int32) = nI 0 from rfl, pn_lt ht3 (by omega)]; omega), h2, if_pos ((nI_leI ht3 (by omega)).2 (by omega)), pb_pI, pb_s]
    · rw [f_X12_end, pn_o (by omega), h3, pn_inN _ (n + 1) _ (by rw [pn_i64, nI_toInt (by omega)]; omega), pb_s, if_pos e, if_neg (by decide), pb_pI, pb_s]
    · rw [pn_o (by omega)]; exact pn_e ⟨rfl, rfl⟩
    · exact pn_e ⟨rfl, rfl⟩
    · rw [pn_o (by omega), pn_o (by omega), pn_o (by omega), pn_o (by omega)]
      exact h4 i (by omega)
    · rw [pn_o c5, pn_o c1]
  · refine ⟨-1, d, d, ?_, ?_, ⟨n, b, h1, h2, h3, h4⟩, rfl, fun _ _ _ _ _ _ _ => rfl⟩
    · rw [f_X11_end]
      by_cases c : v < 0
      · rw [if_pos c]
      · rw [if_neg c, if_neg]
        rw [h2]
        intro q
        apply e
        refine ⟨?_, ?_⟩
        · have := Int32.lt_iff_toInt_lt (x := v) (y := 0)
          rw [this, nI_toInt0] at c; omega
        · have := Int32.le_iff_toInt_le.1 q
          rw [nI_toInt (by omega)] at this; omega
    · rw [f_X12_end, h3, pn_inN _ (n + 1) _ (by rw [pn_i64, nI_toInt (by omega)]; omega), pb_s, if_neg e, if_pos rfl]
theorem pt_fault {d : ya_D} (h : d.1 3 4 = d.1 83 12 ∧ d.1 3 5 = d.1 83 13) (v : Int32) : ∃ r, f_X11_fault v d = some r ∧ f_X12_fault v d = some r := by
  unfold f_X11_fault f_X12_fault
  rw [h.1, h.2]
  by_cases c : v = 0
  · exact ⟨d.1 83 12, by rw [if_pos c], by rw [if_pos c]⟩
  · by_cases c1 : v = 1
    · exact ⟨d.1 83 13, by rw [if_neg c, if_pos c1], by rw [if_neg c, if_pos c1]⟩
    · exact ⟨-1, by rw [if_neg c, if_neg c1], by rw [if_neg c, if_neg c1]⟩
theorem pt_div (i : Nat) (hi : i < 20) : nI i / 4 = nI (i / 4) := pk_div (d := 4) (by omega) (by omega) (by omega)
theorem pt_feed {d : ya_D} (hT : pt_T d) (v : Nat → Int32) : ∃ r d1 d2, f_X11_feed (v 0) (v 1) (v 2) (v 3) (v 4) d = some (r, d1) ∧ f_X12_feed (v 0) (v 1) (v 2) (v 3) (v 4) d1 = some (r, d2) ∧ pt_T d2 ∧ pt_F d d2 := by
  obtain ⟨n, b, h1, h2, h3, h4⟩ := hT
  by_cases e : n + 20 ≤ 2000
  · obtain ⟨e1, A1, A2, A3, A4, A5⟩ := pt_four (v 0) d n (by omega) h2
    obtain ⟨e2, B1, B2, B3, B4, B5⟩ := pt_four (v 1) e1 (n + 4) (by omega) A3
    obtain ⟨e3, C1, C2, C3, C4, C5⟩ := pt_four (v 2) e2 (n + 4 + 4) (by omega) B3
    obtain ⟨e4, D1, D2, D3, D4, D5⟩ := pt_four (v 3) e3 (n + 4 + 4 + 4) (by omega) C3
    obtain ⟨e5, E1, E2, E3, E4, E5⟩ := pt_four (v 4) e4 (n + 4 + 4 + 4 + 4) (by omega) D3
    have F : ∀ a k, (a ≠ 1 ∨ k ≠ 1) → (a ≠ 2 ∨ k < n ∨ n + 20 ≤ k) → e5.1 a k = d.1 a k := fun a k q1 q2 => by
      rw [E5 a k q1 (by omega), D5 a k q1 (by omega), C5 a k q1 (by omega), B5 a k q1 (by omega), A5 a k q1 (by omega)]
    have F2 : e5.2 = d.2 := by rw [E2, D2, C2, B2, A2]
    have W : ∀ q j, q < 5 → j < 4 → e5.1 2 (n + (4 * q + j)) = nI (pt_b (v q) (24 - 8 * j)) := fun q j hq hj => by
      obtain rfl | rfl | rfl | rfl | rfl : q = 0 ∨ q = 1 ∨ q = 2 ∨ q = 3 ∨ q = 4 := by omega
      · rw [E5 _ _ (by omega) (by omega), D5 _ _ (by omega) (by omega), C5 _ _ (by omega) (by omega), B5 _ _ (by omega) (by omega), ← A4 j hj, show n + (4 * 0 + j) = n + j by omega]
      · rw [E5 _ _ (by omega) (by omega), D5 _ _ (by omega) (by omega), C5 _ _ (by omega) (by omega), ← B4 j hj, show n + (4 * 1 + j) = n + 4 + j by omega]
      · rw [E5 _ _ (by omega) (by omega), D5 _ _ (by omega) (by omega), ← C4 j hj, show n + (4 * 2 + j) = n + 4 + 4 + j by omega]
      · rw [E5 _ _ (by omega) (by omega), ← D4 j hj, show n + (4 * 3 + j) = n + 4 + 4 + 4 + j by omega]
      · rw [← E4 j hj, show n + (4 * 4 + j) = n + 4 + 4 + 4 + 4 + j by omega]
    have S1 : e5.1 1 1 = nI (n + 20) := by rw [E3]
    have S3 : e5.1 83 5 = nI n := by rw [F _ _ (by omega) (by omega), h3]
    -- the class
    have P1 : f_X11_feed (v 0) (v 1) (v 2) (v 3) (v 4) d = some (nI (n + 20), e5) := by
      rw [f_X11_feed, h2, show (20 : Int32) = nI 20 from rfl, show (2000 : Int32) = nI 2000 from rfl, nI_add, if_pos ((nI_leI (by omega) (by omega)).2 e), A1, pb_s, B1, pb_s, C1, pb_s, D1, pb_s, E1, pb_s, S1]
    -- the reference
    obtain ⟨g, hg⟩ : ∃ g, g = ya_sI (ya_sI (ya_sI (ya_sI (ya_sI e5 88 0 (v 0)) 88 1 (v 1)) 88 2 (v 2)) 88 3 (v 3)) 88 4 (v 4) := ⟨_, rfl⟩
    have G1 : ∀ q, q < 5 → g.1 88 q = v q := fun q hq => by
      obtain rfl | rfl | rfl | rfl | rfl : q = 0 ∨ q = 1 ∨ q = 2 ∨ q = 3 ∨ q = 4 := by omega
      · rw [hg, pn_o (by omega), pn_o (by omega), pn_o (by omega), pn_o (by omega), pn_e ⟨rfl, rfl⟩]
      · rw [hg, pn_o (by omega), pn_o (by omega), pn_o (by omega), pn_e ⟨rfl, rfl⟩]
      · rw [hg, pn_o (by omega), pn_o (by omega), pn_e ⟨rfl, rfl⟩]
      · rw [hg, pn_o (by omega), pn_e ⟨rfl, rfl⟩]
      · rw [hg, pn_e ⟨rfl, rfl⟩]
    have G2 : ∀ a k, a ≠ 88 → g.1 a k = e5.1 a k := fun a k q => by
      rw [hg, pn_o (Or.inl q), pn_o (Or.inl q), pn_o (Or.inl q), pn_o (Or.inl q), pn_o (Or.inl q)]
    have G3 : g.2 = e5.2 := by rw [hg]; rfl
    obtain ⟨K, hK⟩ : ∃ K : ya_D → Option (Int32 × ya_D), K = fun (d_101 : ya_D) => (ya_pI d_101 83 5 ((d_101.1 83 5) + nI 20)).bind fun d109 => some (d109.1 83 5, d109) := ⟨_, rfl⟩
    have key := pq_lp (G := fun fu i (s : ya_D) => f_X12_feed_L55 K fu (nI i) s) (E := K) (n := 20)
      (I := fun i s => s.2 = g.2 ∧ (∀ a k, (a ≠ 87 ∨ k < n ∨ n + i ≤ k) → s.1 a k = g.1 a k) ∧ ∀ j, j < i → s.1 87 (n + j) = (nI (pt_b (v (j / 4)) (24 - 8 * (j % 4)))).toInt8.toInt32)
      (Q := fun s => s.2 = g.2 ∧ (∀ a k, (a ≠ 87 ∨ k < n ∨ n + 20 ≤ k) → s.1 a k = g.1 a k) ∧ ∀ j, j < 20 → s.1 87 (n + j) = (nI (pt_b (v (j / 4)) (24 - 8 * (j % 4)))).toInt8.toInt32)
      (fun fu s hs => ⟨s, hs, by
        rw [f_X12_feed_L55, if_pos (by decide)]⟩)
      (fun fu i s hi hs => Or.inr ⟨ya_sI s 87 (n + i) ((nI (pt_b (v (i / 4)) (24 - 8 * (i % 4)))).toInt8.toInt32), ⟨hs.1, fun a k q => by
          rw [pn_o (by omega), hs.2.1 a k (by omega)], fun j hj => by
          rcases Nat.lt_or_ge j i with c | c
          · rw [pn_o (by omega), hs.2.2 j c]
          · obtain rfl : j = i := by omega
            exact pn_e ⟨rfl, rfl⟩⟩, by
          have x1 : s.1 83 5 = nI n := by rw [hs.2.1 _ _ (by omega), G2 _ _ (by omega), S3]
          have x2 : s.1 88 (i / 4) = v (i / 4) := by rw [hs.2.1 _ _ (by omega), G1 _ (by omega)]
          have x3 : nI i - nI (i / 4) * 4 = nI (i % 4) := by
            rw [show (4 : Int32) = nI 4 from rfl, pn_mul, pn_sub (by omega), show i - i / 4 * 4 = i % 4 by omega]
          rw [f_X12_feed_L55, if_neg (by rw [show (20 : Int32) = nI 20 from rfl, pn_le (by omega) (by omega)]; omega), pt_div i hi, show (5 : Nat) = 5 from rfl, pn_rI (by omega) (by omega), pb_s, x1, x2, x3, nI_add, nI_1]
          have x4 : vp_nar .byte ((v (i / 4) >>> (((24 : Int32) - ((8 : Int32) * nI (i % 4))) &&& 31)).toInt8.toInt32) = (nI (pt_b (v (i / 4)) (24 - 8 * (i % 4)))).toInt8.toInt32 := by
            have c : i % 4 < 4 := Nat.mod_lt _ (by decide)
            obtain c | c | c | c : i % 4 = 0 ∨ i % 4 = 1 ∨ i % 4 = 2 ∨ i % 4 = 3 := by omega
            · rw [c]; exact pt_r _ _ 24 (by omega) (by decide)
            · rw [c]; exact pt_r _ _ 16 (by omega) (by decide)
            · rw [c]; exact pt_r _ _ 8 (by omega) (by decide)
            · rw [c]; exact pt_r _ _ 0 (by omega) (by decide)
          rw [x4, pn_wI (by omega) (by omega), pb_s]⟩)
    obtain ⟨e6, ⟨L1, L2, L3⟩, L4⟩ := key ya_F 0 g (by omega) (by rw [ya_F]; omega) ⟨rfl, fun _ _ _ => rfl, fun j hj => absurd hj (Nat.not_lt_zero j)⟩
    have x5 : e6.1 83 5 = nI n := by rw [L2 _ _ (by omega), G2 _ _ (by omega), S3]
    refine ⟨nI (n + 20), e5, ya_sI e6 83 5 (nI (n + 20)), P1, ?_, ⟨n + 20, fun i => if i < n then b i else pt_b (v ((i - n) / 4)) (24 - 8 * ((i - n) % 4)), e, ?_, pn_e ⟨rfl, rfl⟩, fun i hi => ?_⟩, ?_, fun a k q1 q2 q3 q4 q5 => ?_⟩
    · rw [f_X12_feed, S3, show (20 : Int32) = nI 20 from rfl, show (2000 : Int32) = nI 2000 from rfl, nI_add, if_pos ((nI_leI (by omega) (by omega)).2 e), show (0 : Int32) = nI 0 from rfl, show (1 : Int32) = nI 1 from rfl, show (2 : Int32) = nI 2 from rfl, show (3 : Int32) = nI 3 from rfl, show (4 : Int32) = nI 4 from rfl, pn_wI (by omega) (by omega), pb_s, pn_wI (by omega) (by omega), pb_s, pn_wI (by omega) (by omega), pb_s, pn_wI (by omega) (by omega), pb_s, pn_wI (by omega) (by omega), pb_s, ← hg, ← hK]
      refine L4.trans ?_
      rw [hK]
      dsimp only
      rw [x5, nI_add, pb_pI, pb_s, pn_e ⟨rfl, rfl⟩]
    · rw [pn_o (by omega), L2 _ _ (by omega), G2 _ _ (by omega), S1]
    · rw [pn_o (by omega), pn_o (by omega), L2 2 i (by omega), G2 _ _ (by omega)]
      by_cases c : i < n
      · dsimp only
        rw [if_pos c, F _ _ (by omega) (by omega), L2 87 i (by omega), G2 _ _ (by omega), F _ _ (by omega) (by omega)]
        exact h4 i c
      · dsimp only
        rw [if_neg c]
        have w1 := W ((i - n) / 4) ((i - n) % 4) (by omega) (Nat.mod_lt _ (by decide))
        rw [show n + (4 * ((i - n) / 4) + (i - n) % 4) = i by omega] at w1
        have w2 := L3 (i - n) (by omega)
        rw [show n + (i - n) = i by omega] at w2
        exact ⟨pt_b_lt _ _, w1, w2⟩
    · rw [pn_sI2, L1, G3, F2]
    · rw [pn_o (by omega), L2 _ _ (by omega), G2 _ _ (by omega), F _ _ (by omega) (by omega)]
  · refine ⟨-1, d, d, ?_, ?_, ⟨n, b, h1, h2, h3, h4⟩, rfl, fun _ _ _ _ _ _ _ => rfl⟩
    · rw [f_X11_feed, h2, show (20 : Int32) = nI 20 from rfl, show (2000 : Int32) = nI 2000 from rfl, nI_add, if_neg (by rw [pn_le (by omega) (by omega)]; exact e)]
    · rw [f_X12_feed, h3, show (20 : Int32) = nI 20 from rfl, show (2000 : Int32) = nI 2000 from rfl, nI_add, if_neg (by rw [pn_le (by omega) (by omega)]; exact e)]
