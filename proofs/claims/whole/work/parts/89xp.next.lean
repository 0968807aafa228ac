/-! Market: the reference's line -/
section
variable {n : Nat} {b : Nat → Nat} {d d0 e0 e : ya_D} {X : pr_X} {l : List Nat}
theorem pr_n11 (ht : pr_tr e0 n b) {i : Nat} (h : pr_rS n b e0 e (.inr i)) {nt : Nat} (hm : e.1 89 1 = nI nt) (hn : nt < 100) (hf : nt ≠ 5) (P : pr_is b (pr_S n b i) (pr_E n b i) ps_thing) : ∃ e1, pr_rS n b e0 e1 (.inr (pr_E n b i)) ∧ e1.1 89 = e.1 89 ∧ f_X12_readNext e = ((f_X12_readThing e1).bind fun d159 => some d159) := by
  have hi : ∀ q w, pr_lw q w → f_X12_is q e = some (if pr_is b (pr_S n b i) (pr_E n b i) w then 1 else 0) := fun q w hw => pr_is1 ht h hw
  have i10 : f_X12_is 10 e = some 1 := (hi 10 ps_thing (by decide +kernel)).trans (congrArg some (if_pos P))
  have i11 : f_X12_is 11 e = some 0 := (hi 11 ps_was (by decide +kernel)).trans (congrArg some (if_neg (fun z => absurd (pr_ne z P) (by decide))))
  have i12 : f_X12_is 12 e = some 0 := (hi 12 ps_old (by decide +kernel)).trans (congrArg some (if_neg (fun z => absurd (pr_ne z P) (by decide))))
  have i13 : f_X12_is 13 e = some 0 := (hi 13 ps_seller (by decide +kernel)).trans (congrArg some (if_neg (fun z => absurd (pr_ne z P) (by decide))))
  have i14 : f_X12_is 14 e = some 0 := (hi 14 ps_grows (by decide +kernel)).trans (congrArg some (if_neg (fun z => absurd (pr_ne z P) (by decide))))
  have i15 : f_X12_is 15 e = some 0 := (hi 15 ps_buyer (by decide +kernel)).trans (congrArg some (if_neg (fun z => absurd (pr_ne z P) (by decide))))
  have i16 : f_X12_is 16 e = some 0 := (hi 16 ps_cap (by decide +kernel)).trans (congrArg some (if_neg (fun z => absurd (pr_ne z P) (by decide))))
  obtain ⟨e1, T1, T2, T3⟩ := pr_take1 ht h i10
  refine ⟨e1, T2, T3, ?_⟩
  rw [f_X12_readNext, i10, pb_s, pj_1, pj_0, if_neg pn_10]
  dsimp only
  rw [pj_1, if_neg pn_10]
  dsimp only
  rw [i10, pb_s, pj_1, pj_0, pj_0, if_neg pn_10, pr_d1, pb_s, hm, if_neg (show ¬ nI nt = 5 from fun z => hf ((nI_eq (b := 5) (by omega) (by omega)).1 z)), i13, pb_s, pj_0, if_pos rfl, i15, pb_s, if_pos rfl]
  dsimp only
  rw [pr_good, if_pos h.2.1, pb_s, if_neg pn_10, T1, ya_b2s, if_neg pn_10]
theorem pr_n11f (ht : pr_tr e0 n b) {i : Nat} (h : pr_rS n b e0 e (.inr i)) {nt : Nat} (hm : e.1 89 1 = nI nt) (hn : nt < 100) (hf : nt = 5) (P : pr_is b (pr_S n b i) (pr_E n b i) ps_thing) : ∃ e1, f_X12_readNext e = some e1 ∧ pr_rS n b e0 e1 (.inl (3, pr_S n b i)) ∧ e1.1 89 = e.1 89 := by
  have hi : ∀ q w, pr_lw q w → f_X12_is q e = some (if pr_is b (pr_S n b i) (pr_E n b i) w then 1 else 0) := fun q w hw => pr_is1 ht h hw
  have i10 : f_X12_is 10 e = some 1 := (hi 10 ps_thing (by decide +kernel)).trans (congrArg some (if_pos P))
  have i11 : f_X12_is 11 e = some 0 := (hi 11 ps_was (by decide +kernel)).trans (congrArg some (if_neg (fun z => absurd (pr_ne z P) (by decide))))
  have i12 : f_X12_is 12 e = some 0 := (hi 12 ps_old (by decide +kernel)).trans (congrArg some (if_neg (fun z => absurd (pr_ne z P) (by decide))))
  have i13 : f_X12_is 13 e = some 0 := (hi 13 ps_seller (by decide +kernel)).trans (congrArg some (if_neg (fun z => absurd (pr_ne z P) (by decide))))
  have i14 : f_X12_is 14 e = some 0 := (hi 14 ps_grows (by decide +kernel)).trans (congrArg some (if_neg (fun z => absurd (pr_ne z P) (by decide))))
  have i15 : f_X12_is 15 e = some 0 := (hi 15 ps_buyer (by decide +kernel)).trans (congrArg some (if_neg (fun z => absurd (pr_ne z P) (by decide))))
  have i16 : f_X12_is 16 e = some 0 := (hi 16 ps_cap (by decide +kernel)).trans (congrArg some (if_neg (fun z => absurd (pr_ne z P) (by decide))))
  obtain ⟨e1, T1, T2, T3⟩ := pr_errs1 h (f := 3) (by omega) (by omega)
  have T1' : f_X12_errs 3 e = some e1 := T1
  refine ⟨e1, ?_, T2, T3⟩
  rw [f_X12_readNext, i10, pb_s, pj_1, pj_0, if_neg pn_10]
  dsimp only
  rw [pj_1, if_neg pn_10]
  dsimp only
  rw [i10, pb_s, pj_1, pj_0, pj_0, if_neg pn_10, pr_d1, pb_s, hm, if_pos (show nI nt = 5 by rw [hf]; rfl), T1', pb_s]
  dsimp only
  rw [pr_good, if_neg (pr_bad T2), pb_s, if_pos rfl]
theorem pr_n12 (ht : pr_tr e0 n b) {i : Nat} (h : pr_rS n b e0 e (.inr i)) (P : pr_is b (pr_S n b i) (pr_E n b i) ps_was) : ∃ e1, pr_rS n b e0 e1 (.inr (pr_E n b i)) ∧ e1.1 89 = e.1 89 ∧ f_X12_readNext e = ((ya_rI e1 89 468 1).bind fun x182 => (f_X12_readOn 11 x182 e1).bind fun d183 => some d183) := by
  have hi : ∀ q w, pr_lw q w → f_X12_is q e = some (if pr_is b (pr_S n b i) (pr_E n b i) w then 1 else 0) := fun q w hw => pr_is1 ht h hw
  have i10 : f_X12_is 10 e = some 0 := (hi 10 ps_thing (by decide +kernel)).trans (congrArg some (if_neg (fun z => absurd (pr_ne z P) (by decide))))
  have i11 : f_X12_is 11 e = some 1 := (hi 11 ps_was (by decide +kernel)).trans (congrArg some (if_pos P))
  have i12 : f_X12_is 12 e = some 0 := (hi 12 ps_old (by decide +kernel)).trans (congrArg some (if_neg (fun z => absurd (pr_ne z P) (by decide))))
  have i13 : f_X12_is 13 e = some 0 := (hi 13 ps_seller (by decide +kernel)).trans (congrArg some (if_neg (fun z => absurd (pr_ne z P) (by decide))))
  have i14 : f_X12_is 14 e = some 0 := (hi 14 ps_grows (by decide +kernel)).trans (congrArg some (if_neg (fun z => absurd (pr_ne z P) (by decide))))
  have i15 : f_X12_is 15 e = some 0 := (hi 15 ps_buyer (by decide +kernel)).trans (congrArg some (if_neg (fun z => absurd (pr_ne z P) (by decide))))
  have i16 : f_X12_is 16 e = some 0 := (hi 16 ps_cap (by decide +kernel)).trans (congrArg some (if_neg (fun z => absurd (pr_ne z P) (by decide))))
  obtain ⟨e1, T1, T2, T3⟩ := pr_take1 ht h i11
  refine ⟨e1, T2, T3, ?_⟩
  rw [f_X12_readNext, i10, pb_s, pj_1, pj_0, if_pos rfl, i11, pb_s, if_neg pn_10]
  dsimp only
  rw [pj_1, if_neg pn_10]
  dsimp only
  rw [i10, pb_s, pj_1, pj_0, pj_0, if_pos rfl, i13, pb_s, pj_0, if_pos rfl, i15, pb_s, if_pos rfl]
  dsimp only
  rw [pr_good, if_pos h.2.1, pb_s, if_neg pn_10, pr_take0 i10, ya_b2s, if_pos rfl, T1, ya_b2s, if_neg pn_10]
theorem pr_n13 (ht : pr_tr e0 n b) {i : Nat} (h : pr_rS n b e0 e (.inr i)) (P : pr_is b (pr_S n b i) (pr_E n b i) ps_old) : ∃ e1, pr_rS n b e0 e1 (.inr (pr_E n b i)) ∧ e1.1 89 = e.1 89 ∧ f_X12_readNext e = ((ya_rI e1 89 468 1).bind fun x206 => (f_X12_readOn 111 x206 e1).bind fun d207 => some d207) := by
  have hi : ∀ q w, pr_lw q w → f_X12_is q e = some (if pr_is b (pr_S n b i) (pr_E n b i) w then 1 else 0) := fun q w hw => pr_is1 ht h hw
  have i10 : f_X12_is 10 e = some 0 := (hi 10 ps_thing (by decide +kernel)).trans (congrArg some (if_neg (fun z => absurd (pr_ne z P) (by decide))))
  have i11 : f_X12_is 11 e = some 0 := (hi 11 ps_was (by decide +kernel)).trans (congrArg some (if_neg (fun z => absurd (pr_ne z P) (by decide))))
  have i12 : f_X12_is 12 e = some 1 := (hi 12 ps_old (by decide +kernel)).trans (congrArg some (if_pos P))
  have i13 : f_X12_is 13 e = some 0 := (hi 13 ps_seller (by decide +kernel)).trans (congrArg some (if_neg (fun z => absurd (pr_ne z P) (by decide))))
  have i14 : f_X12_is 14 e = some 0 := (hi 14 ps_grows (by decide +kernel)).trans (congrArg some (if_neg (fun z => absurd (pr_ne z P) (by decide))))
  have i15 : f_X12_is 15 e = some 0 := (hi 15 ps_buyer (by decide +kernel)).trans (congrArg some (if_neg (fun z => absurd (pr_ne z P) (by decide))))
  have i16 : f_X12_is 16 e = some 0 := (hi 16 ps_cap (by decide +kernel)).trans (congrArg some (if_neg (fun z => absurd (pr_ne z P) (by decide))))
  obtain ⟨e1, T1, T2, T3⟩ := pr_take1 ht h i12
  refine ⟨e1, T2, T3, ?_⟩
  rw [f_X12_readNext, i10, pb_s, pj_1, pj_0, if_pos rfl, i11, pb_s, if_pos rfl, i12, pb_s, if_neg pn_10]
  dsimp only
  rw [pj_1, if_neg pn_10]
  dsimp only
  rw [i10, pb_s, pj_1, pj_0, pj_0, if_pos rfl, i13, pb_s, pj_0, if_pos rfl, i15, pb_s, if_pos rfl]
  dsimp only
  rw [pr_good, if_pos h.2.1, pb_s, if_neg pn_10, pr_take0 i10, ya_b2s, if_pos rfl, pr_take0 i11, ya_b2s, if_pos rfl, T1, ya_b2s, if_neg pn_10]
theorem pr_n14 (ht : pr_tr e0 n b) {i : Nat} (h : pr_rS n b e0 e (.inr i)) {nt : Nat} (hm : e.1 89 2 = nI nt) (hn : nt < 100) (hf : nt ≠ 5) (P : pr_is b (pr_S n b i) (pr_E n b i) ps_seller) : ∃ e1, pr_rS n b e0 e1 (.inr (pr_E n b i)) ∧ e1.1 89 = e.1 89 ∧ f_X12_readNext e = ((f_X12_readSeller e1).bind fun d223 => some d223) := by
  have hi : ∀ q w, pr_lw q w → f_X12_is q e = some (if pr_is b (pr_S n b i) (pr_E n b i) w then 1 else 0) := fun q w hw => pr_is1 ht h hw
  have i10 : f_X12_is 10 e = some 0 := (hi 10 ps_thing (by decide +kernel)).trans (congrArg some (if_neg (fun z => absurd (pr_ne z P) (by decide))))
  have i11 : f_X12_is 11 e = some 0 := (hi 11 ps_was (by decide +kernel)).trans (congrArg some (if_neg (fun z => absurd (pr_ne z P) (by decide))))
  have i12 : f_X12_is 12 e = some 0 := (hi 12 ps_old (by decide +kernel)).trans (congrArg some (if_neg (fun z => absurd (pr_ne z P) (by decide))))
  have i13 : f_X12_is 13 e = some 1 := (hi 13 ps_seller (by decide +kernel)).trans (congrArg some (if_pos P))
  have i14 : f_X12_is 14 e = some 0 := (hi 14 ps_grows (by decide +kernel)).trans (congrArg some (if_neg (fun z => absurd (pr_ne z P) (by decide))))
  have i15 : f_X12_is 15 e = some 0 := (hi 15 ps_buyer (by decide +kernel)).trans (congrArg some (if_neg (fun z => absurd (pr_ne z P) (by decide))))
  have i16 : f_X12_is 16 e = some 0 := (hi 16 ps_cap (by decide +kernel)).trans (congrArg some (if_neg (fun z => absurd (pr_ne z P) (by decide))))
  obtain ⟨e1, T1, T2, T3⟩ := pr_take1 ht h i13
  refine ⟨e1, T2, T3, ?_⟩
  rw [f_X12_readNext, i10, pb_s, pj_1, pj_0, if_pos rfl, i11, pb_s, if_pos rfl, i12, pb_s, if_pos rfl, i13, pb_s, if_neg pn_10]
  dsimp only
  rw [pj_1, if_neg pn_10]
  dsimp only
  rw [i10, pb_s, pj_1, pj_0, pj_0, if_pos rfl, i13, pb_s, pj_0, if_neg pn_10, pr_d2, pb_s, hm, if_neg (show ¬ nI nt = 5 from fun z => hf ((nI_eq (b := 5) (by omega) (by omega)).1 z)), i15, pb_s, if_pos rfl]
  dsimp only
  rw [pr_good, if_pos h.2.1, pb_s, if_neg pn_10, pr_take0 i10, ya_b2s, if_pos rfl, pr_take0 i11, ya_b2s, if_pos rfl, pr_take0 i12, ya_b2s, if_pos rfl, T1, ya_b2s, if_neg pn_10]
theorem pr_n14f (ht : pr_tr e0 n b) {i : Nat} (h : pr_rS n b e0 e (.inr i)) {nt : Nat} (hm : e.1 89 2 = nI nt) (hn : nt < 100) (hf : nt = 5) (P : pr_is b (pr_S n b i) (pr_E n b i) ps_seller) : ∃ e1, f_X12_readNext e = some e1 ∧ pr_rS n b e0 e1 (.inl (3, pr_S n b i)) ∧ e1.1 89 = e.1 89 := by
  have hi : ∀ q w, pr_lw q w → f_X12_is q e = some (if pr_is b (pr_S n b i) (pr_E n b i) w then 1 else 0) := fun q w hw => pr_is1 ht h hw
  have i10 : f_X12_is 10 e = some 0 := (hi 10 ps_thing (by decide +kernel)).trans (congrArg some (if_neg (fun z => absurd (pr_ne z P) (by decide))))
  have i11 : f_X12_is 11 e = some 0 := (hi 11 ps_was (by decide +kernel)).trans (congrArg some (if_neg (fun z => absurd (pr_ne z P) (by decide))))
  have i12 : f_X12_is 12 e = some 0 := (hi 12 ps_old (by decide +kernel)).trans (congrArg some (if_neg (fun z => absurd (pr_ne z P) (by decide))))
  have i13 : f_X12_is 13 e = some 1 := (hi 13 ps_seller (by decide +kernel)).trans (congrArg some (if_pos P))
  have i14 : f_X12_is 14 e = some 0 := (hi 14 ps_grows (by decide +kernel)).trans (congrArg some (if_neg (fun z => absurd (pr_ne z P) (by decide))))
  have i15 : f_X12_is 15 e = some 0 := (hi 15 ps_buyer (by decide +kernel)).trans (congrArg some (if_neg (fun z => absurd (pr_ne z P) (by decide))))
  have i16 : f_X12_is 16 e = some 0 := (hi 16 ps_cap (by decide +kernel)).trans (congrArg some (if_neg (fun z => absurd (pr_ne z P) (by decide))))
  obtain ⟨e1, T1, T2, T3⟩ := pr_errs1 h (f := 3) (by omega) (by omega)
  have T1' : f_X12_errs 3 e = some e1 := T1
  refine ⟨e1, ?_, T2, T3⟩
  rw [f_X12_readNext, i10, pb_s, pj_1, pj_0, if_pos rfl, i11, pb_s, if_pos rfl, i12, pb_s, if_pos rfl, i13, pb_s, if_neg pn_10]
  dsimp only
  rw [pj_1, if_neg pn_10]
  dsimp only
  rw [i10, pb_s, pj_1, pj_0, pj_0, if_pos rfl, i13, pb_s, pj_0, if_neg pn_10, pr_d2, pb_s, hm, if_pos (show nI nt = 5 by rw [hf]; rfl), T1', pb_s]
  dsimp only
  rw [pr_good, if_neg (pr_bad T2), pb_s, if_pos rfl]
theorem pr_n15 (ht : pr_tr e0 n b) {i : Nat} (h : pr_rS n b e0 e (.inr i)) (P : pr_is b (pr_S n b i) (pr_E n b i) ps_grows) : ∃ e1, pr_rS n b e0 e1 (.inr (pr_E n b i)) ∧ e1.1 89 = e.1 89 ∧ f_X12_readNext e = ((ya_rI e1 89 468 2).bind fun x247 => (f_X12_readOn 326 x247 e1).bind fun d248 => some d248) := by
  have hi : ∀ q w, pr_lw q w → f_X12_is q e = some (if pr_is b (pr_S n b i) (pr_E n b i) w then 1 else 0) := fun q w hw => pr_is1 ht h hw
  have i10 : f_X12_is 10 e = some 0 := (hi 10 ps_thing (by decide +kernel)).trans (congrArg some (if_neg (fun z => absurd (pr_ne z P) (by decide))))
  have i11 : f_X12_is 11 e = some 0 := (hi 11 ps_was (by decide +kernel)).trans (congrArg some (if_neg (fun z => absurd (pr_ne z P) (by decide))))
  have i12 : f_X12_is 12 e = some 0 := (hi 12 ps_old (by decide +kernel)).trans (congrArg some (if_neg (fun z => absurd (pr_ne z P) (by decide))))
  have i13 : f_X12_is 13 e = some 0 := (hi 13 ps_seller (by decide +kernel)).trans (congrArg some (if_neg (fun z => absurd (pr_ne z P) (by decide))))
  have i14 : f_X12_is 14 e = some 1 := (hi 14 ps_grows (by decide +kernel)).trans (congrArg some (if_pos P))
  have i15 : f_X12_is 15 e = some 0 := (hi 15 ps_buyer (by decide +kernel)).trans (congrArg some (if_neg (fun z => absurd (pr_ne z P) (by decide))))
  have i16 : f_X12_is 16 e = some 0 := (hi 16 ps_cap (by decide +kernel)).trans (congrArg some (if_neg (fun z => absurd (pr_ne z P) (by decide))))
  obtain ⟨e1, T1, T2, T3⟩ := pr_take1 ht h i14
  refine ⟨e1, T2, T3, ?_⟩
  rw [f_X12_readNext, i10, pb_s, pj_1, pj_0, if_pos rfl, i11, pb_s, if_pos rfl, i12, pb_s, if_pos rfl, i13, pb_s, if_pos rfl, i14, pb_s, if_neg pn_10]
  dsimp only
  rw [pj_1, if_neg pn_10]
  dsimp only
  rw [i10, pb_s, pj_1, pj_0, pj_0, if_pos rfl, i13, pb_s, pj_0, if_pos rfl, i15, pb_s, if_pos rfl]
  dsimp only
  rw [pr_good, if_pos h.2.1, pb_s, if_neg pn_10, pr_take0 i10, ya_b2s, if_pos rfl, pr_take0 i11, ya_b2s, if_pos rfl, pr_take0 i12, ya_b2s, if_pos rfl, pr_take0 i13, ya_b2s, if_pos rfl, T1, ya_b2s, if_neg pn_10]
theorem pr_n16 (ht : pr_tr e0 n b) {i : Nat} (h : pr_rS n b e0 e (.inr i)) {nt : Nat} (hm : e.1 89 3 = nI nt) (hn : nt < 100) (hf : nt ≠ 7) (P : pr_is b (pr_S n b i) (pr_E n b i) ps_buyer) : ∃ e1, pr_rS n b e0 e1 (.inr (pr_E n b i)) ∧ e1.1 89 = e.1 89 ∧ f_X12_readNext e = ((f_X12_readBuyer e1).bind fun d264 => some d264) := by
  have hi : ∀ q w, pr_lw q w → f_X12_is q e = some (if pr_is b (pr_S n b i) (pr_E n b i) w then 1 else 0) := fun q w hw => pr_is1 ht h hw
  have i10 : f_X12_is 10 e = some 0 := (hi 10 ps_thing (by decide +kernel)).trans (congrArg some (if_neg (fun z => absurd (pr_ne z P) (by decide))))
  have i11 : f_X12_is 11 e = some 0 := (hi 11 ps_was (by decide +kernel)).trans (congrArg some (if_neg (fun z => absurd (pr_ne z P) (by decide))))
  have i12 : f_X12_is 12 e = some 0 := (hi 12 ps_old (by decide +kernel)).trans (congrArg some (if_neg (fun z => absurd (pr_ne z P) (by decide))))
  have i13 : f_X12_is 13 e = some 0 := (hi 13 ps_seller (by decide +kernel)).trans (congrArg some (if_neg (fun z => absurd (pr_ne z P) (by decide))))
  have i14 : f_X12_is 14 e = some 0 := (hi 14 ps_grows (by decide +kernel)).trans (congrArg some (if_neg (fun z => absurd (pr_ne z P) (by decide))))
  have i15 : f_X12_is 15 e = some 1 := (hi 15 ps_buyer (by decide +kernel)).trans (congrArg some (if_pos P))
  have i16 : f_X12_is 16 e = some 0 := (hi 16 ps_cap (by decide +kernel)).trans (congrArg some (if_neg (fun z => absurd (pr_ne z P) (by decide))))
  obtain ⟨e1, T1, T2, T3⟩ := pr_take1 ht h i15
  refine ⟨e1, T2, T3, ?_⟩
  rw [f_X12_readNext, i10, pb_s, pj_1, pj_0, if_pos rfl, i11, pb_s, if_pos rfl, i12, pb_s, if_pos rfl, i13, pb_s, if_pos rfl, i14, pb_s, if_pos rfl, i15, pb_s, if_neg pn_10]
  dsimp only
  rw [pj_1, if_neg pn_10]
  dsimp only
  rw [i10, pb_s, pj_1, pj_0, pj_0, if_pos rfl, i13, pb_s, pj_0, if_pos rfl, i15, pb_s, if_neg pn_10, pr_d3, pb_s, hm, if_neg (show ¬ nI nt = 7 from fun z => hf ((nI_eq (b := 7) (by omega) (by omega)).1 z))]
  dsimp only
  rw [pr_good, if_pos h.2.1, pb_s, if_neg pn_10, pr_take0 i10, ya_b2s, if_pos rfl, pr_take0 i11, ya_b2s, if_pos rfl, pr_take0 i12, ya_b2s, if_pos rfl, pr_take0 i13, ya_b2s, if_pos rfl, pr_take0 i14, ya_b2s, if_pos rfl, T1, ya_b2s, if_neg pn_10]
theorem pr_n16f (ht : pr_tr e0 n b) {i : Nat} (h : pr_rS n b e0 e (.inr i)) {nt : Nat} (hm : e.1 89 3 = nI nt) (hn : nt < 100) (hf : nt = 7) (P : pr_is b (pr_S n b i) (pr_E n b i) ps_buyer) : ∃ e1, f_X12_readNext e = some e1 ∧ pr_rS n b e0 e1 (.inl (3, pr_S n b i)) ∧ e1.1 89 = e.1 89 := by
  have hi : ∀ q w, pr_lw q w → f_X12_is q e = some (if pr_is b (pr_S n b i) (pr_E n b i) w then 1 else 0) := fun q w hw => pr_is1 ht h hw
  have i10 : f_X12_is 10 e = some 0 := (hi 10 ps_thing (by decide +kernel)).trans (congrArg some (if_neg (fun z => absurd (pr_ne z P) (by decide))))
  have i11 : f_X12_is 11 e = some 0 := (hi 11 ps_was (by decide +kernel)).trans (congrArg some (if_neg (fun z => absurd (pr_ne z P) (by decide))))
  have i12 : f_X12_is 12 e = some 0 := (hi 12 ps_old (by decide +kernel)).trans (congrArg some (if_neg (fun z => absurd (pr_ne z P) (by decide))))
  have i13 : f_X12_is 13 e = some 0 := (hi 13 ps_seller (by decide +kernel)).trans (congrArg some (if_neg (fun z => absurd (pr_ne z P) (by decide))))
  have i14 : f_X12_is 14 e = some 0 := (hi 14 ps_grows (by decide +kernel)).trans (congrArg some (if_neg (fun z => absurd (pr_ne z P) (by decide))))
  have i15 : f_X12_is 15 e = some 1 := (hi 15 ps_buyer (by decide +kernel)).trans (congrArg some (if_pos P))
  have i16 : f_X12_is 16 e = some 0 := (hi 16 ps_cap (by decide +kernel)).trans (congrArg some (if_neg (fun z => absurd (pr_ne z P) (by decide))))
  obtain ⟨e1, T1, T2, T3⟩ := pr_errs1 h (f := 3) (by omega) (by omega)
  have T1' : f_X12_errs 3 e = some e1 := T1
  refine ⟨e1, ?_, T2, T3⟩
  rw [f_X12_readNext, i10, pb_s, pj_1, pj_0, if_pos rfl, i11, pb_s, if_pos rfl, i12, pb_s, if_pos rfl, i13, pb_s, if_pos rfl, i14, pb_s, if_pos rfl, i15, pb_s, if_neg pn_10]
  dsimp only
  rw [pj_1, if_neg pn_10]
  dsimp only
  rw [i10, pb_s, pj_1, pj_0, pj_0, if_pos rfl, i13, pb_s, pj_0, if_pos rfl, i15, pb_s, if_neg pn_10, pr_d3, pb_s, hm, if_pos (show nI nt = 7 by rw [hf]; rfl), T1', pb_s]
  dsimp only
  rw [pr_good, if_neg (pr_bad T2), pb_s, if_pos rfl]
theorem pr_n17 (ht : pr_tr e0 n b) {i : Nat} (h : pr_rS n b e0 e (.inr i)) (P : pr_is b (pr_S n b i) (pr_E n b i) ps_cap) : ∃ e1, pr_rS n b e0 e1 (.inr (pr_E n b i)) ∧ e1.1 89 = e.1 89 ∧ f_X12_readNext e = (ya_b2 (f_X12_number 0 99 e1) fun x283 d283 => (ya_wI d283 89 468 5 x283).bind fun d286 => some d286) := by
  have hi : ∀ q w, pr_lw q w → f_X12_is q e = some (if pr_is b (pr_S n b i) (pr_E n b i) w then 1 else 0) := fun q w hw => pr_is1 ht h hw
  have i10 : f_X12_is 10 e = some 0 := (hi 10 ps_thing (by decide +kernel)).trans (congrArg some (if_neg (fun z => absurd (pr_ne z P) (by decide))))
  have i11 : f_X12_is 11 e = some 0 := (hi 11 ps_was (by decide +kernel)).trans (congrArg some (if_neg (fun z => absurd (pr_ne z P) (by decide))))
  have i12 : f_X12_is 12 e = some 0 := (hi 12 ps_old (by decide +kernel)).trans (congrArg some (if_neg (fun z => absurd (pr_ne z P) (by decide))))
  have i13 : f_X12_is 13 e = some 0 := (hi 13 ps_seller (by decide +kernel)).trans (congrArg some (if_neg (fun z => absurd (pr_ne z P) (by decide))))
  have i14 : f_X12_is 14 e = some 0 := (hi 14 ps_grows (by decide +kernel)).trans (congrArg some (if_neg (fun z => absurd (pr_ne z P) (by decide))))
  have i15 : f_X12_is 15 e = some 0 := (hi 15 ps_buyer (by decide +kernel)).trans (congrArg some (if_neg (fun z => absurd (pr_ne z P) (by decide))))
  have i16 : f_X12_is 16 e = some 1 := (hi 16 ps_cap (by decide +kernel)).trans (congrArg some (if_pos P))
  obtain ⟨e1, T1, T2, T3⟩ := pr_adv1 ht h
  refine ⟨e1, T2, T3, ?_⟩
  rw [f_X12_readNext, i10, pb_s, pj_1, pj_0, if_pos rfl, i11, pb_s, if_pos rfl, i12, pb_s, if_pos rfl, i13, pb_s, if_pos rfl, i14, pb_s, if_pos rfl, i15, pb_s, if_pos rfl, i16, pb_s, if_neg pn_10]
  dsimp only
  rw [pj_1, if_neg pn_10]
  dsimp only
  rw [i10, pb_s, pj_1, pj_0, pj_0, if_pos rfl, i13, pb_s, pj_0, if_pos rfl, i15, pb_s, if_pos rfl]
  dsimp only
  rw [pr_good, if_pos h.2.1, pb_s, if_neg pn_10, pr_take0 i10, ya_b2s, if_pos rfl, pr_take0 i11, ya_b2s, if_pos rfl, pr_take0 i12, ya_b2s, if_pos rfl, pr_take0 i13, ya_b2s, if_pos rfl, pr_take0 i14, ya_b2s, if_pos rfl, pr_take0 i15, ya_b2s, if_pos rfl, T1, pb_s]
theorem pr_nN (ht : pr_tr e0 n b) {i : Nat} (h : pr_rS n b e0 e (.inr i)) (P : ∀ k, 1 ≤ k → k < 8 → ¬ pr_is b (pr_S n b i) (pr_E n b i) (pr_hw k)) : ∃ e1, f_X12_readNext e = some e1 ∧ pr_rS n b e0 e1 (.inl (1, pr_S n b i)) ∧ e1.1 89 = e.1 89 := by
  have hi : ∀ q w, pr_lw q w → f_X12_is q e = some (if pr_is b (pr_S n b i) (pr_E n b i) w then 1 else 0) := fun q w hw => pr_is1 ht h hw
  have i10 : f_X12_is 10 e = some 0 := (hi 10 ps_thing (by decide +kernel)).trans (congrArg some (if_neg (P 1 (by omega) (by omega))))
  have i11 : f_X12_is 11 e = some 0 := (hi 11 ps_was (by decide +kernel)).trans (congrArg some (if_neg (P 2 (by omega) (by omega))))
  have i12 : f_X12_is 12 e = some 0 := (hi 12 ps_old (by decide +kernel)).trans (congrArg some (if_neg (P 3 (by omega) (by omega))))
  have i13 : f_X12_is 13 e = some 0 := (hi 13 ps_seller (by decide +kernel)).trans (congrArg some (if_neg (P 4 (by omega) (by omega))))
  have i14 : f_X12_is 14 e = some 0 := (hi 14 ps_grows (by decide +kernel)).trans (congrArg some (if_neg (P 5 (by omega) (by omega))))
  have i15 : f_X12_is 15 e = some 0 := (hi 15 ps_buyer (by decide +kernel)).trans (congrArg some (if_neg (P 6 (by omega) (by omega))))
  have i16 : f_X12_is 16 e = some 0 := (hi 16 ps_cap (by decide +kernel)).trans (congrArg some (if_neg (P 7 (by omega) (by omega))))
  obtain ⟨e1, T1, T2, T3⟩ := pr_errs1 h (f := 1) (by omega) (by omega)
  have T1' : f_X12_errs 1 e = some e1 := T1
  have j10 : f_X12_is 10 e1 = some 0 := pr_rIs0 (by decide) (pr_bad T2)
  have j13 : f_X12_is 13 e1 = some 0 := pr_rIs0 (by decide) (pr_bad T2)
  have j15 : f_X12_is 15 e1 = some 0 := pr_rIs0 (by decide) (pr_bad T2)
  refine ⟨e1, ?_, T2, T3⟩
  rw [f_X12_readNext, i10, pb_s, pj_1, pj_0, if_pos rfl, i11, pb_s, if_pos rfl, i12, pb_s, if_pos rfl, i13, pb_s, if_pos rfl, i14, pb_s, if_pos rfl, i15, pb_s, if_pos rfl, i16, pb_s, if_pos rfl]
  dsimp only
  rw [pj_1, if_pos rfl, T1', pb_s]
  dsimp only
  rw [j10, pb_s, pj_1, pj_0, pj_0, if_pos rfl, j13, pb_s, pj_0, if_pos rfl, j15, pb_s, if_pos rfl]
  dsimp only
  rw [pr_good, if_neg (pr_bad T2), pb_s, if_pos rfl]
/-- a line's end -/
def pr_k45 : ya_D → Option ya_D := fun (d_45 : ya_D) =>
    (f_X12_good d_45).bind fun x46 =>
    ya_j1 (fun (d_65 : ya_D) =>
      (f_X12_good d_65).bind fun x66 =>
      ya_j1 (fun (d_76 : ya_D) =>
        (ya_rI d_76 89 468 4).bind fun x82 =>
        (ya_wI d_76 89 468 4 (x82 + 1)).bind fun d85 =>
        some d85) fun k76 =>
      if x66 = 0 then
        k76 d_65
      else
      (f_X12_advance d_65).bind fun d73 =>
      k76 d73) fun k65 =>
    if x46 = 0 then
      k65 d_45
    else
    if (d_45.1 83 10) = 3 then
      k65 d_45
    else
    (f_X12_errs 1 d_45).bind fun d62 =>
    k65 d62
theorem pr_rl0 (h : e.1 89 4 = nI 0) : f_X12_readLine e = (f_X12_needs 8 e).bind fun d12 =>
    ya_b2 (f_X12_told 9 4 20 d12) fun x26 d26 =>
    (ya_wI d26 89 468 0 x26).bind fun d29 =>
    (ya_wI d29 89 468 5 99).bind fun d37 =>
    pr_k45 d37 := by
  rw [f_X12_readLine, pr_d4, pb_s, h, pj_1, if_pos (show nI 0 = 0 from rfl)]
  rfl
theorem pr_rl1 (h : ¬ e.1 89 4 = 0) : f_X12_readLine e = (f_X12_readNext e).bind fun d42 => pr_k45 d42 := by
  rw [f_X12_readLine, pr_d4, pb_s, pj_1, if_neg h]
  rfl
theorem pr_semi {i : Nat} (hi : i ≤ n) : pr_kr n b i = 3 ↔ pr_is b (pr_S n b i) (pr_E n b i) ps_semi := by
  have hE := pr_E_b (b := b) hi
  unfold pr_kr pr_k pr_E
  obtain ⟨s, hs⟩ : ∃ s, s = pr_S n b i := ⟨_, rfl⟩
  rw [← hs] at hE ⊢
  have hsn : s ≤ n := hE.2.1
  constructor
  · intro h
    by_cases c : pr_k0 n b s = 3
    · rw [if_pos c] at h
      by_cases c2 : b s = 59
      · unfold pr_k0 at c
        unfold pr_e
        by_cases q1 : n ≤ s
        · rw [if_pos q1] at c; omega
        · rw [if_neg q1] at c
          by_cases q2 : pr_al b s = true
          · rw [if_pos q2] at c; omega
          · rw [if_neg q2] at c
            by_cases q3 : pr_di b s = true
            · rw [if_pos q3] at c; omega
            · rw [if_neg q1, if_neg q2, if_neg q3]
              refine ⟨by simp, fun j hj => ?_⟩
              obtain rfl : j = 0 := by simp at hj; omega
              exact c2
      · rw [if_neg c2] at h; omega
    · rw [if_neg c] at h; exact absurd h c
  · rintro ⟨h1, h2⟩
    have hl : ps_semi.length = 1 := rfl
    have c2 : b s = 59 := h2 0 (by rw [hl]; omega)
    rw [hl] at h1
    have q1 : ¬ n ≤ s := fun q => by
      unfold pr_e at h1
      rw [if_pos q] at h1; omega
    have q2 : ¬ pr_al b s = true := fun q => by
      have := of_decide_eq_true q
      omega
    have q3 : ¬ pr_di b s = true := fun q => by
      have := of_decide_eq_true q
      omega
    have c : pr_k0 n b s = 3 := by unfold pr_k0; rw [if_neg q1, if_neg q2, if_neg q3]
    rw [if_pos c, if_pos c2]
theorem pr_kr5 (i : Nat) : pr_kr n b i < 5 := by
  unfold pr_kr pr_k pr_k0
  repeat' split
  all_goals omega
theorem pr_tail (ht : pr_tr e0 n b) (h : pr_rS n b e0 e X) {m : Nat} (hl : e.1 89 4 = nI m) : ∃ e', pr_k45 e = some e' ∧ pr_rS n b e0 e' (pr_tw n b ps_semi X) ∧ e'.1 89 = pr_f (e.1 89) 4 (nI (m + 1)) := by
  have fin : ∀ (e1 : ya_D) (Y : pr_X), pr_rS n b e0 e1 Y → e1.1 89 = e.1 89 → ∃ e', ((ya_rI e1 89 468 4).bind fun x82 => (ya_wI e1 89 468 4 (x82 + 1)).bind fun d85 => some d85) = some e' ∧ pr_rS n b e0 e' Y ∧ e'.1 89 = pr_f (e.1 89) 4 (nI (m + 1)) := fun e1 Y h1 h2 =>
    ⟨ya_sI e1 89 4 (nI (m + 1)), by rw [pr_d4, pb_s, h2, hl, nI_1, pr_w4, pb_s], pr_rS_w h1 _ _, by rw [pr_fe, h2]⟩
  cases X with
  | inl f =>
    obtain ⟨e', A1, A2, A3⟩ := fin e _ h rfl
    refine ⟨e', ?_, A2, A3⟩
    unfold pr_k45
    rw [pr_good, if_neg (pr_bad h), pb_s, pj_1, if_pos rfl]
    dsimp only
    rw [pr_good, if_neg (pr_bad h), pb_s, pj_1, if_pos rfl]
    exact A1
  | inr i =>
    have hi := h.2.2.2.1
    have hs := pr_semi (n := n) (b := b) hi
    have h5 := pr_kr5 (n := n) (b := b) i
    have q3 : nI (pr_kr n b i) = 3 ↔ pr_kr n b i = 3 := nI_eq (b := 3) (by omega) (by omega)
    unfold pr_k45
    rw [pr_good, if_pos h.2.1, pb_s, pj_1, if_neg pn_10, h.2.2.2.2.2.2.1, pr_tw]
    by_cases c : pr_is b (pr_S n b i) (pr_E n b i) ps_semi
    · obtain ⟨e1, B1, B2, B3⟩ := pr_adv1 ht h
      obtain ⟨e', A1, A2, A3⟩ := fin e1 _ B2 B3
      refine ⟨e', ?_, by rw [if_pos c]; exact A2, A3⟩
      rw [if_pos (q3.2 (hs.2 c))]
      dsimp only
      rw [pr_good, if_pos h.2.1, pb_s, pj_1, if_neg pn_10, B1, pb_s]
      exact A1
    · obtain ⟨e1, B1, B2, B3⟩ := pr_errs1 h (f := 1) (by omega) (by omega)
      obtain ⟨e', A1, A2, A3⟩ := fin e1 _ B2 B3
      refine ⟨e', ?_, by rw [if_neg c]; exact A2, A3⟩
      rw [if_neg (fun z => c (hs.1 (q3.1 z))), show f_X12_errs 1 e = some e1 from B1, pb_s]
      dsimp only
      rw [pr_good, if_neg (pr_bad B2), pb_s, pj_1, if_pos rfl]
      exact A1
end
