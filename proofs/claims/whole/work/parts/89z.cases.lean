/-! The law: call after call -/
section
variable {d d' e : ya_D} {M M' : pm_M} {G G' : ya_G}
theorem pc_0 {γ : Type} {sx : Nat × Nat × (Nat → Int32)} {v : Int32} {kj : ya_D → Option γ} {x1 x2 x3 x4 x5 : Int32} (h : pg_I G d) (s1 : ya_sr sx (v + 1) = some x1) (s2 : ya_sr sx (v + 2) = some x2) (s3 : ya_sr sx (v + 3) = some x3) (s4 : ya_sr sx (v + 4) = some x4) (s5 : ya_sr sx (v + 5) = some x5) : ∃ d', pg_I G d' ∧ f_law_c0 sx G v d kj = kj d' := by
  obtain ⟨r, d1, d2, A1, A2, hT, hF⟩ := pt_feed h.2.1 (fun i => if i = 0 then x1 else if i = 1 then x2 else if i = 2 then x3 else if i = 3 then x4 else x5)
  replace A1 : f_X11_feed x1 x2 x3 x4 x5 d = some (r, d1) := A1
  replace A2 : f_X12_feed x1 x2 x3 x4 x5 d1 = some (r, d2) := A2
  have A3 := pg_T h hT hF
  refine ⟨d2, A3, ?_⟩
  rw [f_law_c0, s1, s2, s3, s4, s5]
  repeat rw [pb_s]
  rw [A1, ya_b2s]
  repeat rw [pb_s]
  rw [A2, ya_b2s, if_pos rfl]
theorem pc_1 {γ : Type} {sx : Nat × Nat × (Nat → Int32)} {v : Int32} {kj : ya_D → Option γ} {x1 : Int32} (h : pg_I G d) (s1 : ya_sr sx (v + 1) = some x1) : ∃ d', pg_I G d' ∧ f_law_c1 sx G v d kj = kj d' := by
  obtain ⟨r, d1, d2, A1, A2, hT, hF⟩ := pt_end h.2.1 x1
  have A3 := pg_T h hT hF
  refine ⟨d2, A3, ?_⟩
  rw [f_law_c1, s1]
  repeat rw [pb_s]
  rw [A1, ya_b2s]
  repeat rw [pb_s]
  rw [A2, ya_b2s, if_pos rfl]
theorem pc_2 {γ : Type} {sx : Nat × Nat × (Nat → Int32)} {v : Int32} {kj : ya_D → Option γ} (h : pg_I G d)  : ∃ d', pg_I G d' ∧ f_law_c2 sx G v d kj = kj d' := by
  obtain ⟨r, d1, d2, A1, A2, A3⟩ := pg_market h
  refine ⟨d2, A3, ?_⟩
  rw [f_law_c2]
  rw [A1, ya_b2s]
  rw [A2, ya_b2s, if_pos rfl]
theorem pc_3 {γ : Type} {sx : Nat × Nat × (Nat → Int32)} {v : Int32} {kj : ya_D → Option γ} {x1 : Int32} (h : pg_I G d) (s1 : ya_sr sx (v + 1) = some x1) : ∃ d', pg_I G d' ∧ f_law_c3 sx G v d kj = kj d' := by
  obtain ⟨M, hI, hY⟩ := h.1
  obtain ⟨r, A1, A2⟩ : ∃ r, f_X11_fault x1 d = some r ∧ f_X12_fault x1 d = some r := pt_fault h.2.2.1 x1
  refine ⟨d, h, ?_⟩
  rw [f_law_c3, s1]
  repeat rw [pb_s]
  rw [A1, pb_s]
  repeat rw [pb_s]
  rw [A2, pb_s, if_pos rfl]
theorem pc_4 {γ : Type} {sx : Nat × Nat × (Nat → Int32)} {v : Int32} {kj : ya_D → Option γ} {x1 x2 : Int32} (h : pg_I G d) (s1 : ya_sr sx (v + 1) = some x1) (s2 : ya_sr sx (v + 2) = some x2) : ∃ d', pg_I G d' ∧ f_law_c4 sx G v d kj = kj d' := by
  obtain ⟨M, hI, hY⟩ := h.1
  obtain ⟨r, A1, A2⟩ : ∃ r, f_X11_price x1 x2 d = some r ∧ f_X12_price x1 x2 d = some r := ⟨_, pm_price1 hI x1 x2, pm_price2 hI.2 x1 x2⟩
  refine ⟨d, h, ?_⟩
  rw [f_law_c4, s1, s2]
  repeat rw [pb_s]
  rw [A1, pb_s]
  repeat rw [pb_s]
  rw [A2, pb_s, if_pos rfl]
theorem pc_5 {γ : Type} {sx : Nat × Nat × (Nat → Int32)} {v : Int32} {kj : ya_D → Option γ} {x1 x2 : Int32} (h : pg_I G d) (s1 : ya_sr sx (v + 1) = some x1) (s2 : ya_sr sx (v + 2) = some x2) : ∃ d', pg_I G d' ∧ f_law_c5 sx G v d kj = kj d' := by
  obtain ⟨M, hI, hY⟩ := h.1
  obtain ⟨r, A1, A2⟩ : ∃ r, f_X11_old x1 x2 d = some r ∧ f_X12_old x1 x2 d = some r := ⟨_, pm_old1 hI x1 x2, pm_old2 hI.2 x1 x2⟩
  refine ⟨d, h, ?_⟩
  rw [f_law_c5, s1, s2]
  repeat rw [pb_s]
  rw [A1, pb_s]
  repeat rw [pb_s]
  rw [A2, pb_s, if_pos rfl]
theorem pc_6 {γ : Type} {sx : Nat × Nat × (Nat → Int32)} {v : Int32} {kj : ya_D → Option γ} {x1 x2 : Int32} (h : pg_I G d) (s1 : ya_sr sx (v + 1) = some x1) (s2 : ya_sr sx (v + 2) = some x2) : ∃ d', pg_I G d' ∧ f_law_c6 sx G v d kj = kj d' := by
  obtain ⟨r, d1, d2, A1, A2, A3⟩ := pg_op h (fun M hI hY => pz_offered hI hY x1 x2)
  refine ⟨d2, A3, ?_⟩
  rw [f_law_c6, s1, s2]
  repeat rw [pb_s]
  rw [A1, ya_b2s]
  repeat rw [pb_s]
  rw [A2, ya_b2s, if_pos rfl]
theorem pc_7 {γ : Type} {sx : Nat × Nat × (Nat → Int32)} {v : Int32} {kj : ya_D → Option γ} {x1 x2 : Int32} (h : pg_I G d) (s1 : ya_sr sx (v + 1) = some x1) (s2 : ya_sr sx (v + 2) = some x2) : ∃ d', pg_I G d' ∧ f_law_c7 sx G v d kj = kj d' := by
  obtain ⟨r, d1, A1, A2, A3⟩ := pg_asked h x1 x2
  refine ⟨d1, A3, ?_⟩
  rw [f_law_c7, s1, s2]
  repeat rw [pb_s]
  rw [A1, ya_b2s]
  repeat rw [pb_s]
  rw [A2, pb_s, if_pos rfl]
theorem pc_8 {γ : Type} {sx : Nat × Nat × (Nat → Int32)} {v : Int32} {kj : ya_D → Option γ} {x1 x2 : Int32} (h : pg_I G d) (s1 : ya_sr sx (v + 1) = some x1) (s2 : ya_sr sx (v + 2) = some x2) : ∃ d', pg_I G d' ∧ f_law_c8 sx G v d kj = kj d' := by
  obtain ⟨r, d1, d2, A1, A2, A3⟩ := pg_op h (fun M hI hY => pz_sold hI hY x1 x2)
  refine ⟨d2, A3, ?_⟩
  rw [f_law_c8, s1, s2]
  repeat rw [pb_s]
  rw [A1, ya_b2s]
  repeat rw [pb_s]
  rw [A2, ya_b2s, if_pos rfl]
theorem pc_9 {γ : Type} {sx : Nat × Nat × (Nat → Int32)} {v : Int32} {kj : ya_D → Option γ} {x1 x2 : Int32} (h : pg_I G d) (s1 : ya_sr sx (v + 1) = some x1) (s2 : ya_sr sx (v + 2) = some x2) : ∃ d', pg_I G d' ∧ f_law_c9 sx G v d kj = kj d' := by
  obtain ⟨r, d1, d2, A1, A2, A3⟩ := pg_op h (fun M hI hY => pz_seller hI hY x1 x2)
  refine ⟨d2, A3, ?_⟩
  rw [f_law_c9, s1, s2]
  repeat rw [pb_s]
  rw [A1, ya_b2s]
  repeat rw [pb_s]
  rw [A2, ya_b2s, if_pos rfl]
theorem pc_10 {γ : Type} {sx : Nat × Nat × (Nat → Int32)} {v : Int32} {kj : ya_D → Option γ} {x1 x2 : Int32} (h : pg_I G d) (s1 : ya_sr sx (v + 1) = some x1) (s2 : ya_sr sx (v + 2) = some x2) : ∃ d', pg_I G d' ∧ f_law_c10 sx G v d kj = kj d' := by
  obtain ⟨r, d1, d2, A1, A2, A3⟩ := pg_op h (fun M hI hY => pz_gets hI hY x1 x2)
  refine ⟨d2, A3, ?_⟩
  rw [f_law_c10, s1, s2]
  repeat rw [pb_s]
  rw [A1, ya_b2s]
  repeat rw [pb_s]
  rw [A2, ya_b2s, if_pos rfl]
theorem pc_11 {γ : Type} {sx : Nat × Nat × (Nat → Int32)} {v : Int32} {kj : ya_D → Option γ} {x1 x2 : Int32} (h : pg_I G d) (s1 : ya_sr sx (v + 1) = some x1) (s2 : ya_sr sx (v + 2) = some x2) : ∃ d', pg_I G d' ∧ f_law_c11 sx G v d kj = kj d' := by
  obtain ⟨r, d1, d2, A1, A2, A3⟩ := pg_op h (fun M hI hY => pz_stock hI hY x1 x2)
  refine ⟨d2, A3, ?_⟩
  rw [f_law_c11, s1, s2]
  repeat rw [pb_s]
  rw [A1, ya_b2s]
  repeat rw [pb_s]
  rw [A2, ya_b2s, if_pos rfl]
theorem pc_12 {γ : Type} {sx : Nat × Nat × (Nat → Int32)} {v : Int32} {kj : ya_D → Option γ} {x1 x2 : Int32} (h : pg_I G d) (s1 : ya_sr sx (v + 1) = some x1) (s2 : ya_sr sx (v + 2) = some x2) : ∃ d', pg_I G d' ∧ f_law_c12 sx G v d kj = kj d' := by
  obtain ⟨r, d1, d2, A1, A2, A3⟩ := pg_op h (fun M hI hY => pz_buyer hI hY x1 x2)
  refine ⟨d2, A3, ?_⟩
  rw [f_law_c12, s1, s2]
  repeat rw [pb_s]
  rw [A1, ya_b2s]
  repeat rw [pb_s]
  rw [A2, ya_b2s, if_pos rfl]
theorem pc_13 {γ : Type} {sx : Nat × Nat × (Nat → Int32)} {v : Int32} {kj : ya_D → Option γ} {x1 : Int32} (h : pg_I G d) (s1 : ya_sr sx (v + 1) = some x1) : ∃ d', pg_I G d' ∧ f_law_c13 sx G v d kj = kj d' := by
  obtain ⟨r, d1, d2, A1, A2, A3⟩ := pg_op h (fun M hI hY => pz_rich hI hY x1)
  refine ⟨d2, A3, ?_⟩
  rw [f_law_c13, s1]
  repeat rw [pb_s]
  rw [A1, ya_b2s]
  repeat rw [pb_s]
  rw [A2, ya_b2s, if_pos rfl]
theorem pc_14 {γ : Type} {sx : Nat × Nat × (Nat → Int32)} {v : Int32} {kj : ya_D → Option γ} {x1 : Int32} (h : pg_I G d) (s1 : ya_sr sx (v + 1) = some x1) : ∃ d', pg_I G d' ∧ f_law_c14 sx G v d kj = kj d' := by
  obtain ⟨r, d1, d2, A1, A2, A3⟩ := pg_op h (fun M hI hY => pz_best hI hY x1)
  refine ⟨d2, A3, ?_⟩
  rw [f_law_c14, s1]
  repeat rw [pb_s]
  rw [A1, ya_b2s]
  repeat rw [pb_s]
  rw [A2, ya_b2s, if_pos rfl]
theorem pc_15 {γ : Type} {sx : Nat × Nat × (Nat → Int32)} {v : Int32} {kj : ya_D → Option γ} {x1 x2 : Int32} (h : pg_I G d) (s1 : ya_sr sx (v + 1) = some x1) (s2 : ya_sr sx (v + 2) = some x2) : ∃ d', pg_I G d' ∧ f_law_c15 sx G v d kj = kj d' := by
  obtain ⟨r, d1, d2, A1, A2, A3⟩ := pg_op h (fun M hI hY => pz_worth hI hY x1 x2)
  refine ⟨d2, A3, ?_⟩
  rw [f_law_c15, s1, s2]
  repeat rw [pb_s]
  rw [A1, ya_b2s]
  repeat rw [pb_s]
  rw [A2, ya_b2s, if_pos rfl]
theorem pc_16 {γ : Type} {sx : Nat × Nat × (Nat → Int32)} {v : Int32} {kj : ya_D → Option γ} {x1 : Int32} (h : pg_I G d) (s1 : ya_sr sx (v + 1) = some x1) : ∃ d', pg_I G d' ∧ f_law_c16 sx G v d kj = kj d' := by
  obtain ⟨r, d1, d2, A1, A2, A3⟩ := pg_op h (fun M hI hY => pz_thursday hI hY x1)
  refine ⟨d2, A3, ?_⟩
  rw [f_law_c16, s1]
  repeat rw [pb_s]
  rw [A1, ya_b2s]
  repeat rw [pb_s]
  rw [A2, ya_b2s, if_pos rfl]
theorem pc_17 {γ : Type} {sx : Nat × Nat × (Nat → Int32)} {v : Int32} {kj : ya_D → Option γ} {x1 : Int32} (h : pg_I G d) (s1 : ya_sr sx (v + 1) = some x1) : ∃ d', pg_I G d' ∧ f_law_c17 sx G v d kj = kj d' := by
  obtain ⟨r, d1, d2, A1, A2, A3⟩ := pg_op h (fun M hI hY => pz_asks hI hY x1)
  refine ⟨d2, A3, ?_⟩
  rw [f_law_c17, s1]
  repeat rw [pb_s]
  rw [A1, ya_b2s]
  repeat rw [pb_s]
  rw [A2, ya_b2s, if_pos rfl]
theorem pc_18 {γ : Type} {sx : Nat × Nat × (Nat → Int32)} {v : Int32} {kj : ya_D → Option γ} {x1 x2 : Int32} (h : pg_I G d) (s1 : ya_sr sx (v + 1) = some x1) (s2 : ya_sr sx (v + 2) = some x2) : ∃ d', pg_I G d' ∧ f_law_c18 sx G v d kj = kj d' := by
  obtain ⟨r, d1, d2, A1, A2, A3⟩ := pg_hold h x1 x2
  refine ⟨d2, A3, ?_⟩
  rw [f_law_c18, s1, s2]
  repeat rw [pb_s]
  rw [A1, ya_b2s]
  repeat rw [pb_s]
  rw [A2, ya_b2s, if_pos rfl]
theorem pc_19 {γ : Type} {sx : Nat × Nat × (Nat → Int32)} {v : Int32} {kj : ya_D → Option γ} {x1 : Int32} (h : pg_I G d) (s1 : ya_sr sx (v + 1) = some x1) : ∃ d', pg_I G d' ∧ f_law_c19 sx G v d kj = kj d' := by
  obtain ⟨r, d1, A1, A2, A3⟩ := pg_oq h (fun M hI hY => pz_cheapest hI hY x1)
  refine ⟨d1, A3, ?_⟩
  rw [f_law_c19, s1]
  repeat rw [pb_s]
  rw [A1, ya_b2s]
  repeat rw [pb_s]
  rw [A2, pb_s, if_pos rfl]
theorem pc_20 {γ : Type} {sx : Nat × Nat × (Nat → Int32)} {v : Int32} {kj : ya_D → Option γ} {x1 x2 : Int32} (h : pg_I G d) (s1 : ya_sr sx (v + 1) = some x1) (s2 : ya_sr sx (v + 2) = some x2) : ∃ d', pg_I G d' ∧ f_law_c20 sx G v d kj = kj d' := by
  obtain ⟨r, d1, A1, A2, A3⟩ := pg_oq h (fun M hI hY => pz_buys hI hY x1 x2)
  refine ⟨d1, A3, ?_⟩
  rw [f_law_c20, s1, s2]
  repeat rw [pb_s]
  rw [A1, ya_b2s]
  repeat rw [pb_s]
  rw [A2, pb_s, if_pos rfl]
theorem pc_21 {γ : Type} {sx : Nat × Nat × (Nat → Int32)} {v : Int32} {kj : ya_D → Option γ} {x1 : Int32} (h : pg_I G d) (s1 : ya_sr sx (v + 1) = some x1) : ∃ d', pg_I G d' ∧ f_law_c21 sx G v d kj = kj d' := by
  obtain ⟨r, d1, A1, A2, A3⟩ := pg_oq h (fun M hI hY => pz_crowd hI hY x1)
  refine ⟨d1, A3, ?_⟩
  rw [f_law_c21, s1]
  repeat rw [pb_s]
  rw [A1, ya_b2s]
  repeat rw [pb_s]
  rw [A2, pb_s, if_pos rfl]
theorem pc_22 {γ : Type} {sx : Nat × Nat × (Nat → Int32)} {v : Int32} {kj : ya_D → Option γ} {x1 x2 x3 : Int32} (h : pg_I G d) (s1 : ya_sr sx (v + 1) = some x1) (s2 : ya_sr sx (v + 2) = some x2) (s3 : ya_sr sx (v + 3) = some x3) : ∃ d', pg_I G d' ∧ f_law_c22 sx G v d kj = kj d' := by
  obtain ⟨r, d1, d2, A1, A2, A3⟩ := pg_mark h x1 x2 x3
  refine ⟨d2, A3, ?_⟩
  rw [f_law_c22, s1, s2, s3]
  repeat rw [pb_s]
  rw [A1, ya_b2s]
  repeat rw [pb_s]
  rw [A2, ya_b2s, if_pos rfl]
theorem pc_23 {γ : Type} {sx : Nat × Nat × (Nat → Int32)} {v : Int32} {kj : ya_D → Option γ} (h : pg_I G d)  : ∃ d', pg_I G d' ∧ f_law_c23 sx G v d kj = kj d' := by
  obtain ⟨r, d1, d2, A1, A2, A3⟩ := pg_turn h
  refine ⟨d2, A3, ?_⟩
  rw [f_law_c23]
  rw [A1, ya_b2s]
  rw [A2, ya_b2s, if_pos rfl]
theorem pc_24 {γ : Type} {sx : Nat × Nat × (Nat → Int32)} {v : Int32} {kj : ya_D → Option γ} {x1 x2 x3 : Int32} (h : pg_I G d) (s1 : ya_sr sx (v + 1) = some x1) (s2 : ya_sr sx (v + 2) = some x2) (s3 : ya_sr sx (v + 3) = some x3) : ∃ d', pg_I G d' ∧ f_law_c24 sx G v d kj = kj d' := by
  obtain ⟨r, d1, d2, A1, A2, A3⟩ := pg_op h (fun M hI hY => pz_made hI hY x1 x2 x3)
  refine ⟨d2, A3, ?_⟩
  rw [f_law_c24, s1, s2, s3]
  repeat rw [pb_s]
  rw [A1, ya_b2s]
  repeat rw [pb_s]
  rw [A2, ya_b2s, if_pos rfl]
theorem pc_25 {γ : Type} {sx : Nat × Nat × (Nat → Int32)} {v : Int32} {kj : ya_D → Option γ} {x1 x2 x3 : Int32} (h : pg_I G d) (s1 : ya_sr sx (v + 1) = some x1) (s2 : ya_sr sx (v + 2) = some x2) (s3 : ya_sr sx (v + 3) = some x3) : ∃ d', pg_I G d' ∧ f_law_c25 sx G v d kj = kj d' := by
  obtain ⟨r, d1, d2, A1, A2, A3⟩ := pg_op h (fun M hI hY => pz_least hI hY x1 x2 x3)
  refine ⟨d2, A3, ?_⟩
  rw [f_law_c25, s1, s2, s3]
  repeat rw [pb_s]
  rw [A1, ya_b2s]
  repeat rw [pb_s]
  rw [A2, ya_b2s, if_pos rfl]
theorem pc_26 {γ : Type} {sx : Nat × Nat × (Nat → Int32)} {v : Int32} {kj : ya_D → Option γ} {x1 : Int32} (h : pg_I G d) (s1 : ya_sr sx (v + 1) = some x1) : ∃ d', pg_I G d' ∧ f_law_c26 sx G v d kj = kj d' := by
  obtain ⟨r, d1, d2, A1, A2, A3⟩ := pg_op h (fun M hI hY => pz_most hI hY x1)
  refine ⟨d2, A3, ?_⟩
  rw [f_law_c26, s1]
  repeat rw [pb_s]
  rw [A1, ya_b2s]
  repeat rw [pb_s]
  rw [A2, ya_b2s, if_pos rfl]
theorem pc_27 {γ : Type} {sx : Nat × Nat × (Nat → Int32)} {v : Int32} {kj : ya_D → Option γ} {x1 x2 x3 : Int32} (h : pg_I G d) (s1 : ya_sr sx (v + 1) = some x1) (s2 : ya_sr sx (v + 2) = some x2) (s3 : ya_sr sx (v + 3) = some x3) : ∃ d', pg_I G d' ∧ f_law_c27 sx G v d kj = kj d' := by
  obtain ⟨M, hI, hY⟩ := h.1
  obtain ⟨r, A1, A2⟩ : ∃ r, f_X11_leap x1 x2 x3 d = some r ∧ f_X12_leap x1 x2 x3 d = some r := pz_leap hI x1 x2 x3
  refine ⟨d, h, ?_⟩
  rw [f_law_c27, s1, s2, s3]
  repeat rw [pb_s]
  rw [A1, pb_s]
  repeat rw [pb_s]
  rw [A2, pb_s, if_pos rfl]
theorem pc_28 {γ : Type} {sx : Nat × Nat × (Nat → Int32)} {v : Int32} {kj : ya_D → Option γ} {x1 x2 x3 : Int32} (h : pg_I G d) (s1 : ya_sr sx (v + 1) = some x1) (s2 : ya_sr sx (v + 2) = some x2) (s3 : ya_sr sx (v + 3) = some x3) : ∃ d', pg_I G d' ∧ f_law_c28 sx G v d kj = kj d' := by
  obtain ⟨M, hI, hY⟩ := h.1
  obtain ⟨r, A1, A2⟩ : ∃ r, f_X11_come x1 x2 x3 d = some r ∧ f_X12_come x1 x2 x3 d = some r := pm_come hI x1 x2 x3
  refine ⟨d, h, ?_⟩
  rw [f_law_c28, s1, s2, s3]
  repeat rw [pb_s]
  rw [A1, pb_s]
  repeat rw [pb_s]
  rw [A2, pb_s, if_pos rfl]
theorem pc_29 {γ : Type} {sx : Nat × Nat × (Nat → Int32)} {v : Int32} {kj : ya_D → Option γ} {x1 x2 x3 : Int32} (h : pg_I G d) (s1 : ya_sr sx (v + 1) = some x1) (s2 : ya_sr sx (v + 2) = some x2) (s3 : ya_sr sx (v + 3) = some x3) : ∃ d', pg_I G d' ∧ f_law_c29 sx G v d kj = kj d' := by
  obtain ⟨M, hI, hY⟩ := h.1
  obtain ⟨r, A1, A2⟩ : ∃ r, f_X11_agree G x1 x2 x3 d = some r ∧ f_X12_agree x1 x2 x3 d = some r := pt_agree hI h.2.2.2.2.1 x1 x2 x3
  refine ⟨d, h, ?_⟩
  rw [f_law_c29, s1, s2, s3]
  repeat rw [pb_s]
  rw [A1, pb_s]
  repeat rw [pb_s]
  rw [A2, pb_s, if_pos rfl]
theorem pc_30 {γ : Type} {sx : Nat × Nat × (Nat → Int32)} {v : Int32} {kj : ya_D → Option γ} {x1 x2 x3 x4 : Int32} (h : pg_I G d) (s1 : ya_sr sx (v + 1) = some x1) (s2 : ya_sr sx (v + 2) = some x2) (s3 : ya_sr sx (v + 3) = some x3) (s4 : ya_sr sx (v + 4) = some x4) : ∃ d', pg_I G d' ∧ f_law_c30 sx G v d kj = kj d' := by
  obtain ⟨M, hI, hY⟩ := h.1
  obtain ⟨r, A1, A2⟩ : ∃ r, f_X11_told G x1 x2 x3 x4 d = some r ∧ f_X12_told_ x1 x2 x3 x4 d = some r := pt_told hI h.2.2.2.2.1 x1 x2 x3 x4
  refine ⟨d, h, ?_⟩
  rw [f_law_c30, s1, s2, s3, s4]
  repeat rw [pb_s]
  rw [A1, pb_s]
  repeat rw [pb_s]
  rw [A2, pb_s, if_pos rfl]
theorem pc_31 {γ : Type} {sx : Nat × Nat × (Nat → Int32)} {v : Int32} {kj : ya_D → Option γ} {x1 : Int32} (h : pg_I G d) (s1 : ya_sr sx (v + 1) = some x1) : ∃ d', pg_I G d' ∧ f_law_c31 sx G v d kj = kj d' := by
  obtain ⟨M, hI, hY⟩ := h.1
  obtain ⟨r, A1, A2⟩ : ∃ r, f_X11_odd G x1 d = some r ∧ f_X12_odd x1 d = some r := pt_odd hI h.2.2.2.2.1 x1
  refine ⟨d, h, ?_⟩
  rw [f_law_c31, s1]
  repeat rw [pb_s]
  rw [A1, pb_s]
  repeat rw [pb_s]
  rw [A2, pb_s, if_pos rfl]
theorem pc_32 {γ : Type} {sx : Nat × Nat × (Nat → Int32)} {v : Int32} {kj : ya_D → Option γ} {x1 x2 : Int32} (h : pg_I G d) (s1 : ya_sr sx (v + 1) = some x1) (s2 : ya_sr sx (v + 2) = some x2) : ∃ d', pg_I G d' ∧ f_law_c32 sx G v d kj = kj d' := by
  obtain ⟨M, hI, hY⟩ := h.1
  obtain ⟨r, A1, A2⟩ : ∃ r, f_X11_passing x1 x2 d = some r ∧ f_X12_passing x1 x2 d = some r := pz_passing hI x1 x2
  refine ⟨d, h, ?_⟩
  rw [f_law_c32, s1, s2]
  repeat rw [pb_s]
  rw [A1, pb_s]
  repeat rw [pb_s]
  rw [A2, pb_s, if_pos rfl]
theorem pc_33 {γ : Type} {sx : Nat × Nat × (Nat → Int32)} {v : Int32} {kj : ya_D → Option γ} {x1 x2 x3 x4 x5 : Int32} (h : pg_I G d) (s1 : ya_sr sx (v + 1) = some x1) (s2 : ya_sr sx (v + 2) = some x2) (s3 : ya_sr sx (v + 3) = some x3) (s4 : ya_sr sx (v + 4) = some x4) (s5 : ya_sr sx (v + 5) = some x5) : ∃ d', pg_I G d' ∧ f_law_c33 sx G v d kj = kj d' := by
  obtain ⟨r, d1, d2, A1, A2, A3⟩ := pg_op h (fun M hI hY => pz_like hI hY x1 x2 x3 x4 x5)
  refine ⟨d2, A3, ?_⟩
  rw [f_law_c33, s1, s2, s3, s4, s5]
  repeat rw [pb_s]
  rw [A1, ya_b2s]
  repeat rw [pb_s]
  rw [A2, ya_b2s, if_pos rfl]
theorem pc_34 {γ : Type} {sx : Nat × Nat × (Nat → Int32)} {v : Int32} {kj : ya_D → Option γ} {x1 x2 : Int32} (h : pg_I G d) (s1 : ya_sr sx (v + 1) = some x1) (s2 : ya_sr sx (v + 2) = some x2) : ∃ d', pg_I G d' ∧ f_law_c34 sx G v d kj = kj d' := by
  obtain ⟨r, d1, d2, A1, A2, A3⟩ := pg_op h (fun M hI hY => pz_queue hI hY x1 x2)
  refine ⟨d2, A3, ?_⟩
  rw [f_law_c34, s1, s2]
  repeat rw [pb_s]
  rw [A1, ya_b2s]
  repeat rw [pb_s]
  rw [A2, ya_b2s, if_pos rfl]
theorem pc_35 {γ : Type} {sx : Nat × Nat × (Nat → Int32)} {v : Int32} {kj : ya_D → Option γ} {x1 x2 : Int32} (h : pg_I G d) (s1 : ya_sr sx (v + 1) = some x1) (s2 : ya_sr sx (v + 2) = some x2) : ∃ d', pg_I G d' ∧ f_law_c35 sx G v d kj = kj d' := by
  obtain ⟨r, d1, d2, A1, A2, A3⟩ := pg_op h (fun M hI hY => pz_spoils hI hY x1 x2)
  refine ⟨d2, A3, ?_⟩
  rw [f_law_c35, s1, s2]
  repeat rw [pb_s]
  rw [A1, ya_b2s]
  repeat rw [pb_s]
  rw [A2, ya_b2s, if_pos rfl]
theorem pc_36 {γ : Type} {sx : Nat × Nat × (Nat → Int32)} {v : Int32} {kj : ya_D → Option γ} {x1 x2 : Int32} (h : pg_I G d) (s1 : ya_sr sx (v + 1) = some x1) (s2 : ya_sr sx (v + 2) = some x2) : ∃ d', pg_I G d' ∧ f_law_c36 sx G v d kj = kj d' := by
  obtain ⟨M, hI, hY⟩ := h.1
  obtain ⟨r, A1, A2⟩ : ∃ r, f_X11_shape x1 x2 d = some r ∧ f_X12_shape x1 x2 d = some r := pz_shape hI x1 x2
  refine ⟨d, h, ?_⟩
  rw [f_law_c36, s1, s2]
  repeat rw [pb_s]
  rw [A1, pb_s]
  repeat rw [pb_s]
  rw [A2, pb_s, if_pos rfl]
theorem pc_37 {γ : Type} {sx : Nat × Nat × (Nat → Int32)} {v : Int32} {kj : ya_D → Option γ} {x1 x2 : Int32} (h : pg_I G d) (s1 : ya_sr sx (v + 1) = some x1) (s2 : ya_sr sx (v + 2) = some x2) : ∃ d', pg_I G d' ∧ f_law_c37 sx G v d kj = kj d' := by
  obtain ⟨M, hI, hY⟩ := h.1
  obtain ⟨r, A1, A2⟩ : ∃ r, f_X11_dearer x1 x2 d = some r ∧ f_X12_dearer x1 x2 d = some r := pm_dearer hI x1 x2
  refine ⟨d, h, ?_⟩
  rw [f_law_c37, s1, s2]
  repeat rw [pb_s]
  rw [A1, pb_s]
  repeat rw [pb_s]
  rw [A2, pb_s, if_pos rfl]
theorem pc_38 {γ : Type} {sx : Nat × Nat × (Nat → Int32)} {v : Int32} {kj : ya_D → Option γ} {x1 x2 : Int32} (h : pg_I G d) (s1 : ya_sr sx (v + 1) = some x1) (s2 : ya_sr sx (v + 2) = some x2) : ∃ d', pg_I G d' ∧ f_law_c38 sx G v d kj = kj d' := by
  obtain ⟨r, d1, d2, A1, A2, A3⟩ := pg_op h (fun M hI hY => pz_keeping hI hY x1 x2)
  refine ⟨d2, A3, ?_⟩
  rw [f_law_c38, s1, s2]
  repeat rw [pb_s]
  rw [A1, ya_b2s]
  repeat rw [pb_s]
  rw [A2, ya_b2s, if_pos rfl]
theorem pc_39 {γ : Type} {sx : Nat × Nat × (Nat → Int32)} {v : Int32} {kj : ya_D → Option γ} {x1 : Int32} (h : pg_I G d) (s1 : ya_sr sx (v + 1) = some x1) : ∃ d', pg_I G d' ∧ f_law_c39 sx G v d kj = kj d' := by
  obtain ⟨r, d1, d2, A1, A2, A3⟩ := pg_op h (fun M hI hY => pz_enough hI hY x1)
  refine ⟨d2, A3, ?_⟩
  rw [f_law_c39, s1]
  repeat rw [pb_s]
  rw [A1, ya_b2s]
  repeat rw [pb_s]
  rw [A2, ya_b2s, if_pos rfl]
theorem pc_40 {γ : Type} {sx : Nat × Nat × (Nat → Int32)} {v : Int32} {kj : ya_D → Option γ} {x1 x2 : Int32} (h : pg_I G d) (s1 : ya_sr sx (v + 1) = some x1) (s2 : ya_sr sx (v + 2) = some x2) : ∃ d', pg_I G d' ∧ f_law_c40 sx G v d kj = kj d' := by
  obtain ⟨r, d1, d2, A1, A2, A3⟩ := pg_op h (fun M hI hY => pz_clears hI hY x1 x2)
  refine ⟨d2, A3, ?_⟩
  rw [f_law_c40, s1, s2]
  repeat rw [pb_s]
  rw [A1, ya_b2s]
  repeat rw [pb_s]
  rw [A2, ya_b2s, if_pos rfl]
theorem pc_41 {γ : Type} {sx : Nat × Nat × (Nat → Int32)} {v : Int32} {kj : ya_D → Option γ} {x1 : Int32} (h : pg_I G d) (s1 : ya_sr sx (v + 1) = some x1) : ∃ d', pg_I G d' ∧ f_law_c41 sx G v d kj = kj d' := by
  obtain ⟨r, d1, d2, A1, A2, A3⟩ := pg_op h (fun M hI hY => pz_poor hI hY x1)
  refine ⟨d2, A3, ?_⟩
  rw [f_law_c41, s1]
  repeat rw [pb_s]
  rw [A1, ya_b2s]
  repeat rw [pb_s]
  rw [A2, ya_b2s, if_pos rfl]
theorem pc_42 {γ : Type} {sx : Nat × Nat × (Nat → Int32)} {v : Int32} {kj : ya_D → Option γ} {x1 x2 : Int32} (h : pg_I G d) (s1 : ya_sr sx (v + 1) = some x1) (s2 : ya_sr sx (v + 2) = some x2) : ∃ d', pg_I G d' ∧ f_law_c42 sx G v d kj = kj d' := by
  obtain ⟨r, d1, d2, A1, A2, A3⟩ := pg_op h (fun M hI hY => pz_village hI hY x1 x2)
  refine ⟨d2, A3, ?_⟩
  rw [f_law_c42, s1, s2]
  repeat rw [pb_s]
  rw [A1, ya_b2s]
  repeat rw [pb_s]
  rw [A2, ya_b2s, if_pos rfl]
theorem pc_43 {γ : Type} {sx : Nat × Nat × (Nat → Int32)} {v : Int32} {kj : ya_D → Option γ} {x1 x2 x3 : Int32} (h : pg_I G d) (s1 : ya_sr sx (v + 1) = some x1) (s2 : ya_sr sx (v + 2) = some x2) (s3 : ya_sr sx (v + 3) = some x3) : ∃ d', pg_I G d' ∧ f_law_c43 sx G v d kj = kj d' := by
  obtain ⟨r, d1, d2, A1, A2, A3⟩ := pg_op h (fun M hI hY => pz_chance hI hY x1 x2 x3)
  refine ⟨d2, A3, ?_⟩
  rw [f_law_c43, s1, s2, s3]
  repeat rw [pb_s]
  rw [A1, ya_b2s]
  repeat rw [pb_s]
  rw [A2, ya_b2s, if_pos rfl]
theorem pc_44 {γ : Type} {sx : Nat × Nat × (Nat → Int32)} {v : Int32} {kj : ya_D → Option γ} {x1 x2 : Int32} (h : pg_I G d) (s1 : ya_sr sx (v + 1) = some x1) (s2 : ya_sr sx (v + 2) = some x2) : ∃ d', pg_I G d' ∧ f_law_c44 sx G v d kj = kj d' := by
  obtain ⟨r, d1, d2, A1, A2, A3⟩ := pg_op h (fun M hI hY => pz_lots hI hY x1 x2)
  refine ⟨d2, A3, ?_⟩
  rw [f_law_c44, s1, s2]
  repeat rw [pb_s]
  rw [A1, ya_b2s]
  repeat rw [pb_s]
  rw [A2, ya_b2s, if_pos rfl]
theorem pc_45 {γ : Type} {sx : Nat × Nat × (Nat → Int32)} {v : Int32} {kj : ya_D → Option γ} {x1 x2 x3 : Int32} (h : pg_I G d) (s1 : ya_sr sx (v + 1) = some x1) (s2 : ya_sr sx (v + 2) = some x2) (s3 : ya_sr sx (v + 3) = some x3) : ∃ d', pg_I G d' ∧ f_law_c45 sx G v d kj = kj d' := by
  obtain ⟨r, d1, d2, A1, A2, A3⟩ := pg_op h (fun M hI hY => pz_years hI hY x1 x2 x3)
  refine ⟨d2, A3, ?_⟩
  rw [f_law_c45, s1, s2, s3]
  repeat rw [pb_s]
  rw [A1, ya_b2s]
  repeat rw [pb_s]
  rw [A2, ya_b2s, if_pos rfl]
theorem pc_46 {γ : Type} {sx : Nat × Nat × (Nat → Int32)} {v : Int32} {kj : ya_D → Option γ} {x1 : Int32} (h : pg_I G d) (s1 : ya_sr sx (v + 1) = some x1) : ∃ d', pg_I G d' ∧ f_law_c46 sx G v d kj = kj d' := by
  obtain ⟨M, hI, hY⟩ := h.1
  obtain ⟨r, A1, A2⟩ : ∃ r, f_X11_count G x1 d = some r ∧ f_X12_count x1 d = some r := pt_count hI h.2.1 h.2.2.2.2.1 x1
  refine ⟨d, h, ?_⟩
  rw [f_law_c46, s1]
  repeat rw [pb_s]
  rw [A1, pb_s]
  repeat rw [pb_s]
  rw [A2, pb_s, if_pos rfl]
theorem pc_47 {γ : Type} {sx : Nat × Nat × (Nat → Int32)} {v : Int32} {kj : ya_G → ya_D → Option γ} {x1 : Int32} (h : pg_I G d) (s1 : ya_sr sx (v + 1) = some x1) : ∃ G' d', pg_I G' d' ∧ f_law_c47 sx G v d kj = kj G' d' := by
  obtain ⟨M, hI, hY⟩ := h.1
  obtain ⟨r, G', d1, d2, A1, A2, A3, A4, A5⟩ := pt_img hI h.2.2.2.1 h.2.2.2.2.2 x1
  refine ⟨G', d2, pg_IF h A3 A4 A5, ?_⟩
  rw [f_law_c47, s1]
  repeat rw [pb_s]
  rw [A1, pb_s]
  repeat rw [pb_s]
  dsimp only
  rw [A2, ya_b2s, if_pos rfl]
theorem pc_48 {γ : Type} {sx : Nat × Nat × (Nat → Int32)} {v : Int32} {kj : ya_D → Option γ} {x1 : Int32} (h : pg_I G d) (s1 : ya_sr sx (v + 1) = some x1) : ∃ d', pg_I G d' ∧ f_law_c48 sx G v d kj = kj d' := by
  obtain ⟨r, d1, d2, A1, A2, A3⟩ := pg_op h (fun M hI hY => pt_restore hI hY h.2.2.2.1 h.2.2.2.2.2 x1)
  refine ⟨d2, A3, ?_⟩
  rw [f_law_c48, s1]
  repeat rw [pb_s]
  rw [A1, ya_b2s]
  repeat rw [pb_s]
  rw [A2, ya_b2s, if_pos rfl]
theorem pc_49 {γ : Type} {sx : Nat × Nat × (Nat → Int32)} {v : Int32} {kj : ya_G → ya_D → Option γ} {x1 x2 x3 : Int32} (h : pg_I G d) (s1 : ya_sr sx (v + 1) = some x1) (s2 : ya_sr sx (v + 2) = some x2) (s3 : ya_sr sx (v + 3) = some x3) : ∃ G' d', pg_I G' d' ∧ f_law_c49 sx G v d kj = kj G' d' := by
  obtain ⟨r, G', d1, d2, A1, A2, A3, A4, A5⟩ := pt_row h.2.2.2.1 h.2.2.2.2.1 x1 x2 x3
  refine ⟨G', d2, pg_SF h A3 A4 A5, ?_⟩
  rw [f_law_c49, s1, s2, s3]
  repeat rw [pb_s]
  rw [A1, pb_s]
  repeat rw [pb_s]
  dsimp only
  rw [A2, ya_b2s, if_pos rfl]
theorem pc_50 {γ : Type} {sx : Nat × Nat × (Nat → Int32)} {v : Int32} {kj : ya_D → Option γ} {x1 x2 x3 x4 : Int32} (h : pg_I G d) (s1 : ya_sr sx (v + 1) = some x1) (s2 : ya_sr sx (v + 2) = some x2) (s3 : ya_sr sx (v + 3) = some x3) (s4 : ya_sr sx (v + 4) = some x4) : ∃ d', pg_I G d' ∧ f_law_c50 sx G v d kj = kj d' := by
  obtain ⟨r, d1, d2, A1, A2, A4, A5⟩ := pt_write (d := d) h.2.2.2.1 h.2.2.2.2.1 x1 x2 ((((x3).toInt64) <<< (((32 : Int32)).toInt64 &&& 63)) ||| (((x4).toInt64) &&& 4294967295))
  have A3 := pg_SF h h.2.2.2.1 A4 A5
  refine ⟨d2, A3, ?_⟩
  rw [f_law_c50, s1, s2, s3, s4]
  repeat rw [pb_s]
  rw [A1, ya_b2s]
  repeat rw [pb_s]
  rw [A2, ya_b2s, if_pos rfl]
theorem pc_51 {γ : Type} {sx : Nat × Nat × (Nat → Int32)} {v : Int32} {kj : ya_D → Option γ} {x1 x2 x3 x4 x5 : Int32} (h : pg_I G d) (s1 : ya_sr sx (v + 1) = some x1) (s2 : ya_sr sx (v + 2) = some x2) (s3 : ya_sr sx (v + 3) = some x3) (s4 : ya_sr sx (v + 4) = some x4) (s5 : ya_sr sx (v + 5) = some x5) : ∃ d', pg_I G d' ∧ f_law_c51 sx G v d kj = kj d' := by
  obtain ⟨r, d1, d2, A1, A2, A4, A5⟩ := pt_paste (d := d) h.2.2.2.1 h.2.2.2.2.1 x1 x2 x3 x4 x5
  have A3 := pg_SF h h.2.2.2.1 A4 A5
  refine ⟨d2, A3, ?_⟩
  rw [f_law_c51, s1, s2, s3, s4, s5]
  repeat rw [pb_s]
  rw [A1, ya_b2s]
  repeat rw [pb_s]
  rw [A2, ya_b2s, if_pos rfl]
end
