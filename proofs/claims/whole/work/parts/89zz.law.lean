/-! The law from its start -/
section
variable {d d' e : ya_D} {M M' : pm_M} {G G' : ya_G}
theorem pg_step {γ : Type} {sx : Nat × Nat × (Nat → Int32)} {v : Int32} {kj : ya_G → ya_D → Option γ} {x x1 x2 x3 x4 x5 : Int32} (h : pg_I G d) (s0 : ya_sr sx v = some x) (s1 : ya_sr sx (v + 1) = some x1) (s2 : ya_sr sx (v + 2) = some x2) (s3 : ya_sr sx (v + 3) = some x3) (s4 : ya_sr sx (v + 4) = some x4) (s5 : ya_sr sx (v + 5) = some x5) : ∃ G' d', pg_I G' d' ∧ f_law_step sx G v d kj = kj G' d' := by
  rw [f_law_step, s0, pb_s]
  by_cases c0 : x &&& 63 = 0
  · rw [if_pos c0]; obtain ⟨d', h', e'⟩ := pc_0 (kj := kj G) h s1 s2 s3 s4 s5; exact ⟨G, d', h', e'⟩
  rw [if_neg c0]
  by_cases c1 : x &&& 63 = 1
  · rw [if_pos c1]; obtain ⟨d', h', e'⟩ := pc_1 (kj := kj G) h s1; exact ⟨G, d', h', e'⟩
  rw [if_neg c1]
  by_cases c2 : x &&& 63 = 2
  · rw [if_pos c2]; obtain ⟨d', h', e'⟩ := pc_2 (kj := kj G) h ; exact ⟨G, d', h', e'⟩
  rw [if_neg c2]
  by_cases c3 : x &&& 63 = 3
  · rw [if_pos c3]; obtain ⟨d', h', e'⟩ := pc_3 (kj := kj G) h s1; exact ⟨G, d', h', e'⟩
  rw [if_neg c3]
  by_cases c4 : x &&& 63 = 4
  · rw [if_pos c4]; obtain ⟨d', h', e'⟩ := pc_4 (kj := kj G) h s1 s2; exact ⟨G, d', h', e'⟩
  rw [if_neg c4]
  by_cases c5 : x &&& 63 = 5
  · rw [if_pos c5]; obtain ⟨d', h', e'⟩ := pc_5 (kj := kj G) h s1 s2; exact ⟨G, d', h', e'⟩
  rw [if_neg c5]
  by_cases c6 : x &&& 63 = 6
  · rw [if_pos c6]; obtain ⟨d', h', e'⟩ := pc_6 (kj := kj G) h s1 s2; exact ⟨G, d', h', e'⟩
  rw [if_neg c6]
  by_cases c7 : x &&& 63 = 7
  · rw [if_pos c7]; obtain ⟨d', h', e'⟩ := pc_7 (kj := kj G) h s1 s2; exact ⟨G, d', h', e'⟩
  rw [if_neg c7]
  by_cases c8 : x &&& 63 = 8
  · rw [if_pos c8]; obtain ⟨d', h', e'⟩ := pc_8 (kj := kj G) h s1 s2; exact ⟨G, d', h', e'⟩
  rw [if_neg c8]
  by_cases c9 : x &&& 63 = 9
  · rw [if_pos c9]; obtain ⟨d', h', e'⟩ := pc_9 (kj := kj G) h s1 s2; exact ⟨G, d', h', e'⟩
  rw [if_neg c9]
  by_cases c10 : x &&& 63 = 10
  · rw [if_pos c10]; obtain ⟨d', h', e'⟩ := pc_10 (kj := kj G) h s1 s2; exact ⟨G, d', h', e'⟩
  rw [if_neg c10]
  by_cases c11 : x &&& 63 = 11
  · rw [if_pos c11]; obtain ⟨d', h', e'⟩ := pc_11 (kj := kj G) h s1 s2; exact ⟨G, d', h', e'⟩
  rw [if_neg c11]
  by_cases c12 : x &&& 63 = 12
  · rw [if_pos c12]; obtain ⟨d', h', e'⟩ := pc_12 (kj := kj G) h s1 s2; exact ⟨G, d', h', e'⟩
  rw [if_neg c12]
  by_cases c13 : x &&& 63 = 13
  · rw [if_pos c13]; obtain ⟨d', h', e'⟩ := pc_13 (kj := kj G) h s1; exact ⟨G, d', h', e'⟩
  rw [if_neg c13]
  by_cases c14 : x &&& 63 = 14
  · rw [if_pos c14]; obtain ⟨d', h', e'⟩ := pc_14 (kj := kj G) h s1; exact ⟨G, d', h', e'⟩
  rw [if_neg c14]
  by_cases c15 : x &&& 63 = 15
  · rw [if_pos c15]; obtain ⟨d', h', e'⟩ := pc_15 (kj := kj G) h s1 s2; exact ⟨G, d', h', e'⟩
  rw [if_neg c15]
  by_cases c16 : x &&& 63 = 16
  · rw [if_pos c16]; obtain ⟨d', h', e'⟩ := pc_16 (kj := kj G) h s1; exact ⟨G, d', h', e'⟩
  rw [if_neg c16]
  by_cases c17 : x &&& 63 = 17
  · rw [if_pos c17]; obtain ⟨d', h', e'⟩ := pc_17 (kj := kj G) h s1; exact ⟨G, d', h', e'⟩
  rw [if_neg c17]
  by_cases c18 : x &&& 63 = 18
  · rw [if_pos c18]; obtain ⟨d', h', e'⟩ := pc_18 (kj := kj G) h s1 s2; exact ⟨G, d', h', e'⟩
  rw [if_neg c18]
  by_cases c19 : x &&& 63 = 19
  · rw [if_pos c19]; obtain ⟨d', h', e'⟩ := pc_19 (kj := kj G) h s1; exact ⟨G, d', h', e'⟩
  rw [if_neg c19]
  by_cases c20 : x &&& 63 = 20
  · rw [if_pos c20]; obtain ⟨d', h', e'⟩ := pc_20 (kj := kj G) h s1 s2; exact ⟨G, d', h', e'⟩
  rw [if_neg c20]
  by_cases c21 : x &&& 63 = 21
  · rw [if_pos c21]; obtain ⟨d', h', e'⟩ := pc_21 (kj := kj G) h s1; exact ⟨G, d', h', e'⟩
  rw [if_neg c21]
  by_cases c22 : x &&& 63 = 22
  · rw [if_pos c22]; obtain ⟨d', h', e'⟩ := pc_22 (kj := kj G) h s1 s2 s3; exact ⟨G, d', h', e'⟩
  rw [if_neg c22]
  by_cases c23 : x &&& 63 = 23
  · rw [if_pos c23]; obtain ⟨d', h', e'⟩ := pc_23 (kj := kj G) h ; exact ⟨G, d', h', e'⟩
  rw [if_neg c23]
  by_cases c24 : x &&& 63 = 24
  · rw [if_pos c24]; obtain ⟨d', h', e'⟩ := pc_24 (kj := kj G) h s1 s2 s3; exact ⟨G, d', h', e'⟩
  rw [if_neg c24]
  by_cases c25 : x &&& 63 = 25
  · rw [if_pos c25]; obtain ⟨d', h', e'⟩ := pc_25 (kj := kj G) h s1 s2 s3; exact ⟨G, d', h', e'⟩
  rw [if_neg c25]
  by_cases c26 : x &&& 63 = 26
  · rw [if_pos c26]; obtain ⟨d', h', e'⟩ := pc_26 (kj := kj G) h s1; exact ⟨G, d', h', e'⟩
  rw [if_neg c26]
  by_cases c27 : x &&& 63 = 27
  · rw [if_pos c27]; obtain ⟨d', h', e'⟩ := pc_27 (kj := kj G) h s1 s2 s3; exact ⟨G, d', h', e'⟩
  rw [if_neg c27]
  by_cases c28 : x &&& 63 = 28
  · rw [if_pos c28]; obtain ⟨d', h', e'⟩ := pc_28 (kj := kj G) h s1 s2 s3; exact ⟨G, d', h', e'⟩
  rw [if_neg c28]
  by_cases c29 : x &&& 63 = 29
  · rw [if_pos c29]; obtain ⟨d', h', e'⟩ := pc_29 (kj := kj G) h s1 s2 s3; exact ⟨G, d', h', e'⟩
  rw [if_neg c29]
  by_cases c30 : x &&& 63 = 30
  · rw [if_pos c30]; obtain ⟨d', h', e'⟩ := pc_30 (kj := kj G) h s1 s2 s3 s4; exact ⟨G, d', h', e'⟩
  rw [if_neg c30]
  by_cases c31 : x &&& 63 = 31
  · rw [if_pos c31]; obtain ⟨d', h', e'⟩ := pc_31 (kj := kj G) h s1; exact ⟨G, d', h', e'⟩
  rw [if_neg c31]
  by_cases c32 : x &&& 63 = 32
  · rw [if_pos c32]; obtain ⟨d', h', e'⟩ := pc_32 (kj := kj G) h s1 s2; exact ⟨G, d', h', e'⟩
  rw [if_neg c32]
  by_cases c33 : x &&& 63 = 33
  · rw [if_pos c33]; obtain ⟨d', h', e'⟩ := pc_33 (kj := kj G) h s1 s2 s3 s4 s5; exact ⟨G, d', h', e'⟩
  rw [if_neg c33]
  by_cases c34 : x &&& 63 = 34
  · rw [if_pos c34]; obtain ⟨d', h', e'⟩ := pc_34 (kj := kj G) h s1 s2; exact ⟨G, d', h', e'⟩
  rw [if_neg c34]
  by_cases c35 : x &&& 63 = 35
  · rw [if_pos c35]; obtain ⟨d', h', e'⟩ := pc_35 (kj := kj G) h s1 s2; exact ⟨G, d', h', e'⟩
  rw [if_neg c35]
  by_cases c36 : x &&& 63 = 36
  · rw [if_pos c36]; obtain ⟨d', h', e'⟩ := pc_36 (kj := kj G) h s1 s2; exact ⟨G, d', h', e'⟩
  rw [if_neg c36]
  by_cases c37 : x &&& 63 = 37
  · rw [if_pos c37]; obtain ⟨d', h', e'⟩ := pc_37 (kj := kj G) h s1 s2; exact ⟨G, d', h', e'⟩
  rw [if_neg c37]
  by_cases c38 : x &&& 63 = 38
  · rw [if_pos c38]; obtain ⟨d', h', e'⟩ := pc_38 (kj := kj G) h s1 s2; exact ⟨G, d', h', e'⟩
  rw [if_neg c38]
  by_cases c39 : x &&& 63 = 39
  · rw [if_pos c39]; obtain ⟨d', h', e'⟩ := pc_39 (kj := kj G) h s1; exact ⟨G, d', h', e'⟩
  rw [if_neg c39]
  by_cases c40 : x &&& 63 = 40
  · rw [if_pos c40]; obtain ⟨d', h', e'⟩ := pc_40 (kj := kj G) h s1 s2; exact ⟨G, d', h', e'⟩
  rw [if_neg c40]
  by_cases c41 : x &&& 63 = 41
  · rw [if_pos c41]; obtain ⟨d', h', e'⟩ := pc_41 (kj := kj G) h s1; exact ⟨G, d', h', e'⟩
  rw [if_neg c41]
  by_cases c42 : x &&& 63 = 42
  · rw [if_pos c42]; obtain ⟨d', h', e'⟩ := pc_42 (kj := kj G) h s1 s2; exact ⟨G, d', h', e'⟩
  rw [if_neg c42]
  by_cases c43 : x &&& 63 = 43
  · rw [if_pos c43]; obtain ⟨d', h', e'⟩ := pc_43 (kj := kj G) h s1 s2 s3; exact ⟨G, d', h', e'⟩
  rw [if_neg c43]
  by_cases c44 : x &&& 63 = 44
  · rw [if_pos c44]; obtain ⟨d', h', e'⟩ := pc_44 (kj := kj G) h s1 s2; exact ⟨G, d', h', e'⟩
  rw [if_neg c44]
  by_cases c45 : x &&& 63 = 45
  · rw [if_pos c45]; obtain ⟨d', h', e'⟩ := pc_45 (kj := kj G) h s1 s2 s3; exact ⟨G, d', h', e'⟩
  rw [if_neg c45]
  by_cases c46 : x &&& 63 = 46
  · rw [if_pos c46]; obtain ⟨d', h', e'⟩ := pc_46 (kj := kj G) h s1; exact ⟨G, d', h', e'⟩
  rw [if_neg c46]
  by_cases c47 : x &&& 63 = 47
  · rw [if_pos c47]; exact pc_47 h s1
  rw [if_neg c47]
  by_cases c48 : x &&& 63 = 48
  · rw [if_pos c48]; obtain ⟨d', h', e'⟩ := pc_48 (kj := kj G) h s1; exact ⟨G, d', h', e'⟩
  rw [if_neg c48]
  by_cases c49 : x &&& 63 = 49
  · rw [if_pos c49]; exact pc_49 h s1 s2 s3
  rw [if_neg c49]
  by_cases c50 : x &&& 63 = 50
  · rw [if_pos c50]; obtain ⟨d', h', e'⟩ := pc_50 (kj := kj G) h s1 s2 s3 s4; exact ⟨G, d', h', e'⟩
  rw [if_neg c50]
  by_cases c51 : x &&& 63 = 51
  · rw [if_pos c51]; obtain ⟨d', h', e'⟩ := pc_51 (kj := kj G) h s1 s2 s3 s4 s5; exact ⟨G, d', h', e'⟩
  rw [if_neg c51]
  exact ⟨G, d, h, rfl⟩
theorem pg_sr (b L : Nat) (xs : Nat → Int32) (hL : L ≤ 3072) {v : Nat} (hv : v < L) : ya_sr (b, L, xs) (nI v) = some (xs v) := by
  unfold ya_sr
  rw [if_neg (by rw [nI_clamp (by omega), pt_z32, nI_toInt (by omega)]; dsimp only; omega), nI_clamp (by omega)]
theorem pg_law (b L : Nat) (xs : Nat → Int32) (hL : L ≤ 3072) : ∀ n v G d, pg_I G d → v ≤ L + 5 → L + 6 ≤ v + 6 * n → f_law (b, L, xs) n (nI v) G d = some () := by
  intro n
  induction n with
  | zero => intro v G d h h1 h2; omega
  | succ n ih =>
    intro v G d h h1 h2
    rw [f_law]
    dsimp only
    have e1 : ((Int32.ofNat L) - 6 < nI v) = ((L : Int) - 6 < (v : Int)) := propext (Int32.lt_iff_toInt_lt.trans (by
      rw [Int32.toInt_sub, show (Int32.ofNat L).toInt = (L : Int) from nI_toInt (by omega), nI_toInt (by omega), show (6 : Int32).toInt = 6 from by decide, Int.bmod_def]
      omega))
    by_cases c : (Int32.ofNat L) - 6 < nI v
    · rw [if_pos c]
    · rw [if_neg c]
      rw [e1] at c
      have s1 : ya_sr (b, L, xs) (nI v + 1) = some (xs (v + 1)) := by rw [pl_1, nI_add]; exact pg_sr b L xs hL (by omega)
      have s2 : ya_sr (b, L, xs) (nI v + 2) = some (xs (v + 2)) := by rw [pl_2, nI_add]; exact pg_sr b L xs hL (by omega)
      have s3 : ya_sr (b, L, xs) (nI v + 3) = some (xs (v + 3)) := by rw [pl_3, nI_add]; exact pg_sr b L xs hL (by omega)
      have s4 : ya_sr (b, L, xs) (nI v + 4) = some (xs (v + 4)) := by rw [pl_4, nI_add]; exact pg_sr b L xs hL (by omega)
      have s5 : ya_sr (b, L, xs) (nI v + 5) = some (xs (v + 5)) := by rw [pl_5, nI_add]; exact pg_sr b L xs hL (by omega)
      have s0 : ya_sr (b, L, xs) (nI v) = some (xs v) := pg_sr b L xs hL (by omega)
      have e6 : nI v + 6 = nI (v + 6) := by rw [pl_6, nI_add]
      rw [e6]
      obtain ⟨G', d', h', e'⟩ := pg_step (kj := fun G' d' => f_law (b, L, xs) n (nI (v + 6)) G' d') h s0 s1 s2 s3 s4 s5
      rw [e']
      exact ih (v + 6) G' d' h' (by omega) (by omega)
end
theorem pg_start : pg_I ya_Gs ya_Ds := by
  have none82 : ∀ k q, ya_Gs.2.2 82 k ≠ some q := fun k q h => by rw [ya_Gs_82] at h; cases h
  have none81 : ∀ k q, ya_Gs.2.2 81 k ≠ some q := fun k q h => by rw [ya_Gs_81] at h; cases h
  have z : ∀ q : Nat, ¬ q < (0 : Nat) := fun q => Nat.not_lt_zero q
  refine ⟨⟨fun _ _ => 0, ⟨?_, ?_, ?_⟩, Or.inl (by decide +kernel)⟩, ⟨0, fun _ => 0, by omega, by decide +kernel, by decide +kernel, fun i hi => absurd hi (z i)⟩, ⟨by decide +kernel, by decide +kernel⟩, ⟨by rw [ya_Gs_1]; exact Nat.le_refl _, fun k q _ h => absurd h (none82 k q), fun k q _ h => absurd h (none81 k q), fun k k' q q' _ _ _ h => absurd h (none82 k q), fun k k' q q' _ _ _ h => absurd h (none81 k q), fun k k' q q' _ _ h => absurd h (none82 k q)⟩, fun k hk => Or.inl ⟨ya_Gs_82 k, ?_⟩, fun k hk => Or.inl ⟨ya_Gs_81 k, ?_⟩⟩
  · exact ⟨by decide +kernel, by decide +kernel, by decide +kernel, by decide +kernel, by decide +kernel, by decide +kernel, fun x h => absurd h (z x), fun x t h => absurd h (z x), fun x h => absurd h (z x), fun x t h => absurd h (z x), fun x h => absurd h (z x)⟩
  · exact ⟨by decide +kernel, by decide +kernel, by decide +kernel, by decide +kernel, by decide +kernel, by decide +kernel, fun x h => absurd h (z x), fun x t h => absurd h (z x), fun x h => absurd h (z x), fun x t h => absurd h (z x), fun x h => absurd h (z x)⟩
  · exact ⟨by decide, by decide, by decide, by decide, by decide, by decide, by decide, fun _ => ⟨rfl, rfl, rfl⟩, fun x h => absurd h (z x), fun x t h => absurd h (z x), fun x h => absurd h (z x), fun x t h => absurd h (z x), fun x h => absurd h (z x)⟩
  · obtain rfl | rfl | rfl | rfl : k = 0 ∨ k = 1 ∨ k = 2 ∨ k = 3 := by omega
    all_goals decide +kernel
  · obtain rfl | rfl | rfl : k = 0 ∨ k = 1 ∨ k = 2 := by omega
    all_goals decide +kernel
