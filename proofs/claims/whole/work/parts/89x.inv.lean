/-! The whole invariant, and what each kind of call does to it -/
def pg_I (G : ya_G) (d : ya_D) : Prop := (∃ M, pm_I d M ∧ pz_Y d M) ∧ pt_T d ∧ (d.1 3 4 = d.1 83 12 ∧ d.1 3 5 = d.1 83 13) ∧ pg_G G ∧ (∀ k, k < 4 → pt_S G d k) ∧ ∀ k, k < 3 → pt_G G d k
def pg_2 (G : ya_G) (d : ya_D) (f1 f2 : ya_D → Option (Int32 × ya_D)) : Prop := ∃ r d1 d2, f1 d = some (r, d1) ∧ f2 d1 = some (r, d2) ∧ pg_I G d2
def pg_1 (G : ya_G) (d : ya_D) (f1 : ya_D → Option (Int32 × ya_D)) (f2 : ya_D → Option Int32) : Prop := ∃ r d1, f1 d = some (r, d1) ∧ f2 d1 = some r ∧ pg_I G d1
section
variable {d d' e : ya_D} {M M' : pm_M} {G G' : ya_G}
theorem pg_F (h : pg_I G d) (hI : pm_I d' M') (hY : pz_Y d' M') (hF : pz_F d d') : pg_I G d' := by
  obtain ⟨-, ⟨n, b, t1, t2, t3, t4⟩, ⟨f1, f2⟩, hG, hS, hIm⟩ := h
  obtain ⟨F1, F2⟩ := hF
  refine ⟨⟨M', hI, hY⟩, ⟨n, b, t1, ?_, ?_, fun i hi => ?_⟩, ⟨?_, ?_⟩, hG, fun k hk => ?_, fun k hk => ?_⟩
  · rw [F1 _ _ (by unfold pz_s; omega)]; exact t2
  · rw [F1 _ _ (by unfold pz_s; omega)]; exact t3
  · rw [F1 _ _ (by unfold pz_s; omega), F1 _ _ (by unfold pz_s; omega)]; exact t4 i hi
  · rw [F1 _ _ (by unfold pz_s; omega), F1 _ _ (by unfold pz_s; omega)]; exact f1
  · rw [F1 _ _ (by unfold pz_s; omega), F1 _ _ (by unfold pz_s; omega)]; exact f2
  · refine pt_S_c (hS k hk) rfl (Nat.le_refl _) (F1 _ _ (by unfold pz_s; omega)) (F1 _ _ (by unfold pz_s; omega)) (fun i hi => F2 _ _ (by omega) (by omega) (by omega) (by omega)) (fun q hq => ?_)
    have x := hG.2.1 k q hk hq
    exact ⟨F1 _ _ (by unfold pz_s; omega), F1 _ _ (by unfold pz_s; omega), fun i hi => F2 _ _ (by omega) (by omega) (by omega) (by omega)⟩
  · refine pt_G_c (hIm k hk) rfl (Nat.le_refl _) (F1 _ _ (by unfold pz_s; omega)) (fun i hi => F1 _ _ (by unfold pz_s; omega)) (fun q hq a a1 a2 => funext fun z => ?_)
    have x := hG.2.2.1 k q hk hq
    exact F1 _ _ (by unfold pz_s; omega)
theorem pg_op {f1 f2 : ya_D → Option (Int32 × ya_D)} (h : pg_I G d) (k : ∀ M, pm_I d M → pz_Y d M → pz_op d M f1 f2) : pg_2 G d f1 f2 := by
  obtain ⟨M, hI, hY⟩ := h.1
  obtain ⟨r, d1, d2, M', A1, A2, A3, A4, A5⟩ := k M hI hY
  exact ⟨r, d1, d2, A1, A2, pg_F h A3 A4 A5⟩
theorem pg_oq {f1 : ya_D → Option (Int32 × ya_D)} {f2 : ya_D → Option Int32} (h : pg_I G d) (k : ∀ M, pm_I d M → pz_Y d M → pz_oq d M f1 f2) : pg_1 G d f1 f2 := by
  obtain ⟨M, hI, hY⟩ := h.1
  obtain ⟨r, d1, A1, A2, A3, A4, A5⟩ := k M hI hY
  exact ⟨r, d1, A1, A2, pg_F h A3 A4 A5⟩
theorem pg_mark (h : pg_I G d) (v w y : Int32) : pg_2 G d (f_X11_mark v w y) (f_X12_mark v w y) := by
  obtain ⟨M, hI, hY⟩ := h.1
  obtain ⟨r, d1, d2, M', A1, A2, A3, A4, A5, A6⟩ := pm_mark hI v w y
  refine ⟨r, d1, d2, A1, A2, pg_F h A3 ?_ ⟨fun a k hs => A5 a k (by unfold pz_s at hs; omega) (by unfold pz_s at hs; omega), fun a k _ _ _ _ => by rw [A6]⟩⟩
  have hY2 : pz_Y d2 M := pz_Y_c hY (fun a h1 h2 => funext fun k => A5 a k (by omega) (by omega)) (by rw [A6]) (A5 _ _ (by omega) (by omega))
  exact hY2.imp id (fun z => ⟨z.1, pg_Kn4 hI.2.2 A4 z.2⟩)
theorem pg_hold (h : pg_I G d) (v y : Int32) : pg_2 G d (f_X11_hold v y) (f_X12_hold v y) := by
  obtain ⟨M, hI, hY⟩ := h.1
  obtain ⟨r, d1, d2, M', A1, A2, A3, A4, A5, A6, A7⟩ := pm_hold hI v y
  refine ⟨r, d1, d2, A1, A2, ?_⟩
  rcases A7 with ⟨rfl, rfl⟩ | A7
  · exact h
  · exact pg_F h A3 (Or.inl A7) ⟨fun a k hs => A5 a k (by unfold pz_s at hs; omega) (by unfold pz_s at hs; omega) (fun z => by unfold pz_s at hs; omega), fun a k _ _ _ _ => by rw [A6]⟩
theorem pg_turn (h : pg_I G d) : pg_2 G d f_X11_turn f_X12_turn := by
  obtain ⟨M, hI, hY⟩ := h.1
  obtain ⟨r, d1, d2, M', A1, A2, A3, A4⟩ := pm_turn hI
  refine ⟨r, d1, d2, A1, A2, ?_⟩
  rcases A4 with ⟨rfl, rfl⟩ | ⟨rfl, A5⟩
  · exact h
  · have n84 : ∀ a k, a ≠ 84 → (pv_t2 (ya_sI (pv_t1 d (20 * M 0 3)) 0 9 0) 100).1 a k = (ya_sI (pv_t1 d (20 * M 0 3)) 0 9 0).1 a k := fun a k ha => if_neg ha
    refine pg_F h A3 (Or.inl ?_) ⟨fun a k hs => ?_, fun a k _ _ _ _ => ?_⟩
    · rw [A5, n84 _ _ (by omega)]; exact pn_e ⟨rfl, rfl⟩
    · unfold pz_s at hs
      rw [A5, n84 _ _ (by omega), pn_o (by omega), pv_t1n (by omega)]
    · rw [A5]; rfl
theorem pg_asked (h : pg_I G d) (v w : Int32) : pg_1 G d (f_X11_asked v w) (f_X12_asked v w) := by
  obtain ⟨M, hI, hY⟩ := h.1
  obtain ⟨r, d1, A1, A2, A3, A4, A5⟩ := pz_asked hI hY v w
  exact ⟨r, d1, A1, A2, pg_F h A3 A4 A5⟩
theorem pg_T (h : pg_I G d) (hT : pt_T d') (hF : pt_F d d') : pg_I G d' := by
  obtain ⟨⟨M, hI, hY⟩, -, ⟨f1, f2⟩, hG, hS, hIm⟩ := h
  obtain ⟨F2, F1⟩ := hF
  have F1' : ∀ a, 4 ≤ a → a ≠ 83 → a ≠ 87 → a ≠ 88 → d'.1 a = d.1 a := fun a h1 h2 h3 h4 => funext fun k => F1 a k (by omega) (by omega) h3 h4 (by omega)
  refine ⟨⟨M, ⟨pt_C_c hI.1 (fun a h1 h2 => F1' a (by omega) (by omega) (by omega) (by omega)), pm_R_c hI.2.1 (fun k => F1 _ _ (by omega) (by omega) (by omega) (by omega) (by omega)), hI.2.2⟩, pz_Y_c hY (fun a h1 h2 => F1' a (by omega) (by omega) (by omega) (by omega)) (by rw [F2]) (F1 _ _ (by omega) (by omega) (by omega) (by omega) (by omega))⟩, hT, ⟨?_, ?_⟩, hG, fun k hk => ?_, fun k hk => ?_⟩
  · rw [F1 _ _ (by omega) (by omega) (by omega) (by omega) (by omega), F1 _ _ (by omega) (by omega) (by omega) (by omega) (by omega)]; exact f1
  · rw [F1 _ _ (by omega) (by omega) (by omega) (by omega) (by omega), F1 _ _ (by omega) (by omega) (by omega) (by omega) (by omega)]; exact f2
  · refine pt_S_c (hS k hk) rfl (Nat.le_refl _) (by rw [F1' 104 (by omega) (by omega) (by omega) (by omega)]) (by rw [F1' 105 (by omega) (by omega) (by omega) (by omega)]) (fun i hi => by rw [F2]) (fun q hq => ?_)
    have x := hG.2.1 k q hk hq
    rw [F1' q (by omega) (by omega) (by omega) (by omega), F2]
    exact ⟨rfl, rfl, fun _ _ => rfl⟩
  · refine pt_G_c (hIm k hk) rfl (Nat.le_refl _) (by rw [F1' 86 (by omega) (by omega) (by omega) (by omega)]) (fun i hi => by rw [F1' 85 (by omega) (by omega) (by omega) (by omega)]) (fun q hq a a1 a2 => ?_)
    have x := hG.2.2.1 k q hk hq
    exact F1' a (by omega) (by omega) (by omega) (by omega)
theorem pg_SF (h : pg_I G d) (hG' : pg_G G') (hS' : ∀ k, k < 4 → pt_S G' d' k) (hF : pt_SF G d G' d') : pg_I G' d' := by
  obtain ⟨⟨M, hI, hY⟩, ⟨n, b, t1, t2, t3, t4⟩, ⟨f1, f2⟩, hG, hS, hIm⟩ := h
  obtain ⟨F0, F1, F2, F3, hle⟩ := hF
  refine ⟨⟨M, ⟨pt_C_c hI.1 (fun a h1 h2 => funext fun z => F1 a z (by omega) (by omega) (by omega)), pm_R_c hI.2.1 (fun k => F1 _ _ (by omega) (by omega) (by omega)), hI.2.2⟩, pz_Y_c hY (fun a h1 h2 => funext fun z => F1 a z (by omega) (by omega) (by omega)) (funext fun z => F2 _ z (by omega) (by omega) (by omega)) (F1 _ _ (by omega) (by omega) (by omega))⟩, ⟨n, b, t1, ?_, ?_, fun i hi => ?_⟩, ⟨?_, ?_⟩, hG', hS', fun k hk => ?_⟩
  · rw [F1 _ _ (by omega) (by omega) (by omega)]; exact t2
  · rw [F1 _ _ (by omega) (by omega) (by omega)]; exact t3
  · rw [F1 _ _ (by omega) (by omega) (by omega), F1 _ _ (by omega) (by omega) (by omega)]; exact t4 i hi
  · rw [F1 _ _ (by omega) (by omega) (by omega), F1 _ _ (by omega) (by omega) (by omega)]; exact f1
  · rw [F1 _ _ (by omega) (by omega) (by omega), F1 _ _ (by omega) (by omega) (by omega)]; exact f2
  · exact pt_G_c (hIm k hk) (F0 k) hle (F1 _ _ (by omega) (by omega) (by omega)) (fun i hi => F1 _ _ (by omega) (by omega) (by omega)) (fun q hq a a1 a2 => (F3 k q hk hq a a1 a2).1)
theorem pg_IF (h : pg_I G d) (hG' : pg_G G') (hIm' : ∀ k, k < 3 → pt_G G' d' k) (hF : pt_IF G d G' d') : pg_I G' d' := by
  obtain ⟨⟨M, hI, hY⟩, ⟨n, b, t1, t2, t3, t4⟩, ⟨f1, f2⟩, hG, hS, hIm⟩ := h
  obtain ⟨F0, Fl, F1, F2, F3⟩ := hF
  refine ⟨⟨M, ⟨pt_C_c hI.1 (fun a h1 h2 => funext fun z => F1 a z (by omega) (by omega) (by omega)), pm_R_c hI.2.1 (fun k => F1 _ _ (by omega) (by omega) (by omega)), hI.2.2⟩, pz_Y_c hY (fun a h1 h2 => funext fun z => F1 a z (by omega) (by omega) (by omega)) (funext fun z => F2 _ z (by omega)) (F1 _ _ (by omega) (by omega) (by omega))⟩, ⟨n, b, t1, ?_, ?_, fun i hi => ?_⟩, ⟨?_, ?_⟩, hG', fun k hk => ?_, hIm'⟩
  · rw [F1 _ _ (by omega) (by omega) (by omega)]; exact t2
  · rw [F1 _ _ (by omega) (by omega) (by omega)]; exact t3
  · rw [F1 _ _ (by omega) (by omega) (by omega), F1 _ _ (by omega) (by omega) (by omega)]; exact t4 i hi
  · rw [F1 _ _ (by omega) (by omega) (by omega), F1 _ _ (by omega) (by omega) (by omega)]; exact f1
  · rw [F1 _ _ (by omega) (by omega) (by omega), F1 _ _ (by omega) (by omega) (by omega)]; exact f2
  · exact pt_S_c (hS k hk) (F0 k) Fl (F1 _ _ (by omega) (by omega) (by omega)) (F1 _ _ (by omega) (by omega) (by omega)) (fun i hi => F2 _ _ (by omega)) (fun q hq => ⟨by rw [(F3 k q hk hq q (by omega) (by omega)).1], by rw [(F3 k q hk hq q (by omega) (by omega)).1], fun i hi => by rw [(F3 k q hk hq (q + 1) (by omega) (by omega)).2]⟩)
end
