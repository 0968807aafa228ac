/-! Slots: write, row, paste -/
theorem pt_bx (x : BitVec 64) (n m : Nat) (h : n + m = 64) (hm : 0 < m) : (x <<< n).sshiftRight n = (x.setWidth m).signExtend 64 := by
  apply BitVec.eq_of_getLsbD_eq
  intro i hi
  rw [BitVec.getLsbD_sshiftRight, BitVec.getLsbD_signExtend, BitVec.msb_eq_getLsbD_last, BitVec.msb_eq_getLsbD_last, BitVec.getLsbD_shiftLeft, BitVec.getLsbD_shiftLeft, BitVec.getLsbD_setWidth, BitVec.getLsbD_setWidth]
  by_cases c : i < m
  · have c1 : n + i < 64 := by omega
    have c2 : ¬ n + i < n := by omega
    have c3 : ¬ 64 ≤ i := by omega
    rw [if_pos c1, if_pos c]
    simp [c, c1, c2, c3, hi, Nat.add_sub_cancel_left]
  · have c1 : ¬ n + i < 64 := by omega
    have c3 : ¬ 64 ≤ i := by omega
    have c4 : ¬ 63 < n := by omega
    have c5 : 63 - n = m - 1 := by omega
    have c6 : m - 1 < m := by omega
    rw [if_neg c1, if_neg c]
    simp [c3, hi, c4, c5, c6]
theorem pt_c8 (v : Int64) (s : Int64) (n m : Nat) (hs : (s.toBitVec.smod 64).toNat = n) (h : n + m = 64) (hm : 0 < m) : ((v <<< s) >>> s).toBitVec = (v.toBitVec.setWidth m).signExtend 64 := by
  rw [← pt_bx _ n m h hm]
  rw [Int64.toBitVec_shiftRight, Int64.toBitVec_shiftLeft, BitVec.shiftLeft_eq', BitVec.sshiftRight_eq', hs]
theorem pt_ss (m : Nat) (hm : 0 < m) (hm2 : m ≤ 32) (x : BitVec m) : (x.signExtend 32).signExtend 64 = x.signExtend 64 := by
  apply BitVec.eq_of_getLsbD_eq
  intro i hi
  rw [BitVec.getLsbD_signExtend, BitVec.getLsbD_signExtend, BitVec.getLsbD_signExtend, BitVec.msb_eq_getLsbD_last, BitVec.msb_eq_getLsbD_last, BitVec.getLsbD_signExtend, BitVec.msb_eq_getLsbD_last]
  by_cases c : i < 32
  · simp [c, hi]
  · by_cases c2 : m = 32
    · subst c2
      simp [c, hi]
    · have c3 : ¬ 32 - 1 < m := by omega
      have c4 : ¬ i < m := by omega
      simp [c, hi, c4]
      intro q
      omega
theorem pt_d8 (v : Int64) : (((v.toInt32).toInt8.toInt32).toInt64).toBitVec = (v.toBitVec.setWidth 8).signExtend 64 := by
  rw [Int32.toBitVec_toInt64, Int8.toBitVec_toInt32, Int32.toBitVec_toInt8, Int64.toBitVec_toInt32, pt_ss 8 (by decide) (by decide), show BitVec.signExtend 32 v.toBitVec = v.toBitVec.setWidth 32 from BitVec.signExtend_eq_setWidth_of_le _ (by decide), show BitVec.signExtend 8 (v.toBitVec.setWidth 32) = (v.toBitVec.setWidth 32).setWidth 8 from BitVec.signExtend_eq_setWidth_of_le _ (by decide), BitVec.setWidth_setWidth_of_le _ (by decide)]
theorem pt_d16 (v : Int64) : (((v.toInt32).toInt16.toInt32).toInt64).toBitVec = (v.toBitVec.setWidth 16).signExtend 64 := by
  rw [Int32.toBitVec_toInt64, Int16.toBitVec_toInt32, Int32.toBitVec_toInt16, Int64.toBitVec_toInt32, pt_ss 16 (by decide) (by decide), show BitVec.signExtend 32 v.toBitVec = v.toBitVec.setWidth 32 from BitVec.signExtend_eq_setWidth_of_le _ (by decide), show BitVec.signExtend 16 (v.toBitVec.setWidth 32) = (v.toBitVec.setWidth 32).setWidth 16 from BitVec.signExtend_eq_setWidth_of_le _ (by decide), BitVec.setWidth_setWidth_of_le _ (by decide)]
theorem pt_d32 (v : Int64) : ((v.toInt32).toInt64).toBitVec = (v.toBitVec.setWidth 32).signExtend 64 := by
  rw [Int32.toBitVec_toInt64, Int64.toBitVec_toInt32, show BitVec.signExtend 32 v.toBitVec = v.toBitVec.setWidth 32 from BitVec.signExtend_eq_setWidth_of_le _ (by decide)]
theorem pt_cut8 (v : Int64) : (v <<< ((((64 : Int32) - ((8 : Int32) <<< (nI 0 &&& 31)))).toInt64 &&& 63)) >>> ((((64 : Int32) - ((8 : Int32) <<< (nI 0 &&& 31)))).toInt64 &&& 63) = ((v.toInt32).toInt8.toInt32).toInt64 :=
  Int64.toBitVec_inj.mp ((pt_c8 v _ 56 8 (by decide) (by decide) (by decide)).trans (pt_d8 v).symm)
theorem pt_cut16 (v : Int64) : (v <<< ((((64 : Int32) - ((8 : Int32) <<< (nI 1 &&& 31)))).toInt64 &&& 63)) >>> ((((64 : Int32) - ((8 : Int32) <<< (nI 1 &&& 31)))).toInt64 &&& 63) = ((v.toInt32).toInt16.toInt32).toInt64 :=
  Int64.toBitVec_inj.mp ((pt_c8 v _ 48 16 (by decide) (by decide) (by decide)).trans (pt_d16 v).symm)
theorem pt_cut32 (v : Int64) : (v <<< ((((64 : Int32) - ((8 : Int32) <<< (nI 2 &&& 31)))).toInt64 &&& 63)) >>> ((((64 : Int32) - ((8 : Int32) <<< (nI 2 &&& 31)))).toInt64 &&& 63) = (v.toInt32).toInt64 :=
  Int64.toBitVec_inj.mp ((pt_c8 v _ 32 32 (by decide) (by decide) (by decide)).trans (pt_d32 v).symm)
theorem pt_cut64 (v : Int64) : (v <<< ((((64 : Int32) - ((8 : Int32) <<< (nI 3 &&& 31)))).toInt64 &&& 63)) >>> ((((64 : Int32) - ((8 : Int32) <<< (nI 3 &&& 31)))).toInt64 &&& 63) = v :=
  Int64.toBitVec_inj.mp ((pt_c8 v _ 0 64 (by decide) (by decide) (by decide)).trans (by rw [BitVec.setWidth_eq, BitVec.signExtend_eq]))
/-- where the class's images and rows lie: no two over each other -/
def pg_G (G : ya_G) : Prop := 108 ≤ G.1 ∧ (∀ k q, k < 4 → G.2.2 82 k = some q → 108 ≤ q ∧ q + 2 ≤ G.1) ∧ (∀ k q, k < 3 → G.2.2 81 k = some q → 108 ≤ q ∧ q + 18 ≤ G.1) ∧ (∀ k k' q q', k < 4 → k' < 4 → k ≠ k' → G.2.2 82 k = some q → G.2.2 82 k' = some q' → q + 2 ≤ q' ∨ q' + 2 ≤ q) ∧ (∀ k k' q q', k < 3 → k' < 3 → k ≠ k' → G.2.2 81 k = some q → G.2.2 81 k' = some q' → q + 18 ≤ q' ∨ q' + 18 ≤ q) ∧ ∀ k k' q q', k < 4 → k' < 3 → G.2.2 82 k = some q → G.2.2 81 k' = some q' → q + 2 ≤ q' ∨ q' + 18 ≤ q
/-- what a call on the slots leaves as it was -/
def pt_SF (G : ya_G) (d : ya_D) (G' : ya_G) (d' : ya_D) : Prop := (∀ k, G'.2.2 81 k = G.2.2 81 k) ∧ (∀ a k, a < 108 → a ≠ 104 → a ≠ 105 → d'.1 a k = d.1 a k) ∧ (∀ a k, a < 108 → a ≠ 106 → a ≠ 107 → d'.2 a k = d.2 a k) ∧ (∀ k q, k < 3 → G.2.2 81 k = some q → ∀ a, q ≤ a → a < q + 18 → d'.1 a = d.1 a ∧ d'.2 a = d.2 a) ∧ G.1 ≤ G'.1
theorem pt_SF_r (G : ya_G) (d : ya_D) : pt_SF G d G d := ⟨fun _ => rfl, fun _ _ _ _ _ => rfl, fun _ _ _ _ _ => rfl, fun _ _ _ _ _ _ _ => ⟨rfl, rfl⟩, Nat.le_refl _⟩
section
variable {d d' : ya_D} {M : pm_M} {G G' : ya_G}
theorem pt_S_c {j : Nat} (h : pt_S G d j) (h1 : G'.2.2 82 j = G.2.2 82 j) (h2 : G.1 ≤ G'.1) (h3 : d'.1 104 j = d.1 104 j) (h4 : d'.1 105 j = d.1 105 j) (h5 : ∀ i, i < 60 → d'.2 106 (60 * j + i) = d.2 106 (60 * j + i)) (h6 : ∀ q, G.2.2 82 j = some q → d'.1 q 1 = d.1 q 1 ∧ d'.1 q 2 = d.1 q 2 ∧ ∀ i, i < 60 → d'.2 (q + 1) i = d.2 (q + 1) i) : pt_S G' d' j := by
  rcases h with ⟨s1, s2⟩ | ⟨q, n, w, s1, s2, s3, v1, v2, v3, v4, v5, v6, v7⟩
  · exact Or.inl ⟨h1.trans s1, h3.trans s2⟩
  · obtain ⟨g1, g2, g3⟩ := h6 q s1
    exact Or.inr ⟨q, n, w, h1.trans s1, s2, by omega, v1, v2, g2.trans v3, h3.trans v4, g1.trans v5, h4.trans v6, fun i hi => (g3 i hi).trans ((v7 i hi).trans (h5 i hi).symm)⟩
theorem pt_put {q w i : Nat} (hw : w < 4) (hi : i < 60) (v : Int64) (h : d.1 q 1 = nI w) : ∃ y, f_X4_put q (nI i) v d = some (ya_sL d (q + 1) i y) ∧ f_X12_cut v (nI w) = some y := by
  unfold f_X4_put f_X12_cut
  rw [h]
  obtain rfl | rfl | rfl | rfl : w = 0 ∨ w = 1 ∨ w = 2 ∨ w = 3 := by omega
  · exact ⟨_, by rw [if_pos (by decide), pn_wL hi (by omega), pb_s], by rw [pt_cut8]⟩
  · exact ⟨_, by rw [if_neg (by decide), if_pos (by decide), pn_wL hi (by omega), pb_s], by rw [pt_cut16]⟩
  · exact ⟨_, by rw [if_neg (by decide), if_neg (by decide), if_pos (by decide), pn_wL hi (by omega), pb_s], by rw [pt_cut32]⟩
  · exact ⟨_, by rw [if_neg (by decide), if_neg (by decide), if_neg (by decide), pn_wL hi (by omega), pb_s], by rw [pt_cut64]⟩
theorem pt_write (hG : pg_G G) (hS : ∀ k, k < 4 → pt_S G d k) (v1 v2 : Int32) (v3 : Int64) : ∃ r d1 d2, f_X11_write G v1 v2 v3 d = some (r, d1) ∧ f_X12_write v1 v2 v3 d1 = some (r, d2) ∧ (∀ k, k < 4 → pt_S G d2 k) ∧ pt_SF G d G d2 := by
  by_cases e1 : pn_ok v1 4
  · obtain ⟨k, hk, rfl⟩ := pn_ok_e e1
    rcases hS k hk with ⟨s1, s2⟩ | ⟨q, n, w, s1, s2, s3, s4⟩
    · refine ⟨-6, d, d, ?_, ?_, hS, pt_SF_r G d⟩
      · rw [f_X11_write, pt_slot1, pb_s, if_pos e1, if_neg pn_10, pt_lk hk, s1]
      · rw [f_X12_write, pt_slot2, pb_s, if_pos e1, if_neg pn_10, pn_rI hk (by omega), pb_s, s2, if_pos rfl]
    · have hV := s4
      obtain ⟨g1, g2, g3, g4, g5, g6, g7⟩ := s4
      have hm1 : ¬ nI n = -1 := pn_m1 (by omega)
      by_cases e2 : pn_ok v2 n
      · obtain ⟨i, hi, rfl⟩ := pn_ok_e e2
        obtain ⟨y, y1, y2⟩ := pt_put (i := i) g2 (by omega) v3 g5
        obtain ⟨d2, hd2⟩ : ∃ d2, d2 = ya_sL (ya_sL d (q + 1) i y) 106 (60 * k + i) y := ⟨_, rfl⟩
        have F1 : d2.1 = d.1 := by rw [hd2]; rfl
        have F2 : ∀ a z, (a ≠ q + 1 ∨ z ≠ i) → (a ≠ 106 ∨ z ≠ 60 * k + i) → d2.2 a z = d.2 a z := fun a z c1 c2 => by
          rw [hd2, pn_sL, if_neg (by omega), pn_sL, if_neg (by omega)]
        refine ⟨0, ya_sL d (q + 1) i y, d2, ?_, ?_, fun j hj => ?_, fun _ => rfl, fun a z _ _ _ => by rw [F1], fun a z z1 z2 z3 => F2 a z (by omega) (by omega), fun j q' hj hq' a a1 a2 => ?_, Nat.le_refl _⟩
        · rw [f_X11_write, pt_slot1, pb_s, if_pos e1, if_neg pn_10, pt_lk hk, s1]
          dsimp only
          rw [pj_0, g3, pn_lt_ok _ (by omega), if_pos e2, y1, pb_s]
        · rw [f_X12_write, pt_slot2, pb_s, if_pos e1, if_neg pn_10, pn_rI hk (by omega), pb_s, pn_sL1, g4, if_neg hm1, pb_s, pn_in _ (by omega), pb_s, if_pos e2, if_neg pn_10, pn_rI hk (by omega), pb_s, pn_sL1, g6, y2, pb_s, show (60 : Int32) = nI 60 from rfl, pn_mul, nI_add, pn_wL (by omega) (by omega), pb_s, hd2]
        · by_cases c : j = k
          · subst c
            refine Or.inr ⟨q, n, w, s1, s2, s3, g1, g2, by rw [F1]; exact g3, by rw [F1]; exact g4, by rw [F1]; exact g5, by rw [F1]; exact g6, fun i' hi' => ?_⟩
            by_cases c2 : i' = i
            · subst c2
              rw [hd2, pn_sL, if_neg (by omega), pn_sL, if_pos ⟨rfl, rfl⟩, pn_sL, if_pos ⟨rfl, rfl⟩]
            · rw [F2 _ _ (by omega) (by omega), F2 _ _ (by omega) (by omega), g7 i' hi']
          · refine pt_S_c (hS j hj) rfl (Nat.le_refl _) (by rw [F1]) (by rw [F1]) (fun i' hi' => F2 _ _ (by omega) (by omega)) (fun q' hq' => ⟨by rw [F1], by rw [F1], fun i' hi' => F2 _ _ ?_ ?_⟩)
            · have := hG.2.2.2.1 j k q' q hj hk c hq' s1
              omega
            · have := hG.2.1 j q' hj hq'
              omega
        · have b1 := hG.2.2.2.2.2 k j q q' hk hj s1 hq'
          have b2 := hG.2.2.1 j q' hj hq'
          exact ⟨by rw [F1], funext fun z => F2 a z (by omega) (by omega)⟩
      · refine ⟨-7, d, d, ?_, ?_, hS, pt_SF_r G d⟩
        · rw [f_X11_write, pt_slot1, pb_s, if_pos e1, if_neg pn_10, pt_lk hk, s1]
          dsimp only
          rw [pj_0, g3, pn_lt_ok _ (by omega), if_neg e2]
        · rw [f_X12_write, pt_slot2, pb_s, if_pos e1, if_neg pn_10, pn_rI hk (by omega), pb_s, g4, if_neg hm1, pb_s, pn_in _ (by omega), pb_s, if_neg e2, if_pos rfl]
  · refine ⟨-2, d, d, ?_, ?_, hS, pt_SF_r G d⟩
    · rw [f_X11_write, pt_slot1, pb_s, if_neg e1, if_pos rfl]
    · rw [f_X12_write, pt_slot2, pb_s, if_neg e1, if_pos rfl]
end
