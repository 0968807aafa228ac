/-! A seller alone: loaded; what he brings without a day, at another price, if his thing kept otherwise -/
/-- two loops side by side that may end early together -/
theorem pq_lp2x {α β γ α' β' γ' : Type} {G : Nat → Nat → α → Option γ} {E : β → Option γ} {G' : Nat → Nat → α' → Option γ'} {E' : β' → Option γ'} {n : Nat} {I : Nat → α → α' → Prop} {Q : β → β' → Prop} (hstop : ∀ fu s s', I n s s' → ∃ y y', Q y y' ∧ G (fu + 1) n s = E y ∧ G' (fu + 1) n s' = E' y') (hstep : ∀ fu i s s', i < n → I i s s' → (∃ y y', Q y y' ∧ G (fu + 1) i s = E y ∧ G' (fu + 1) i s' = E' y') ∨ ∃ t t', I (i + 1) t t' ∧ G (fu + 1) i s = G fu (i + 1) t ∧ G' (fu + 1) i s' = G' fu (i + 1) t') : ∀ fu i s s', i ≤ n → n < i + fu → I i s s' → ∃ y y', Q y y' ∧ G fu i s = E y ∧ G' fu i s' = E' y' := by
  intro fu
  induction fu with
  | zero => intro i s s' h1 h2; omega
  | succ fu ih =>
    intro i s s' h1 h2 hI
    rcases Nat.lt_or_ge i n with h | h
    · rcases hstep fu i s s' h hI with hx | ⟨t, t', hs, e, e'⟩
      · exact hx
      · rw [e, e']; exact ih (i + 1) t t' (by omega) (by omega) hs
    · obtain rfl : i = n := by omega
      exact hstop fu s s' hI
section
variable {d e : ya_D} {M : pm_M} {c q P : Nat → Nat} {k n : Nat}
def pv_sc (M : pm_M) (s : Nat) : Nat → Nat := fun t => if t < M 0 1 then pm_cm M s t else 0
/-- class's cells of a seller alone aside, nothing changed; reference's likewise -/
def pz_7 (d d' : ya_D) : Prop := (∀ a, a < 72 ∨ 78 < a → d'.1 a = d.1 a) ∧ d'.2 = d.2
def pz_r (e e' : ya_D) : Prop := (∀ a, a ≠ 102 → a ≠ 103 → e'.1 a = e.1 a) ∧ e'.2 = e.2
theorem pz_7_r : pz_7 d d := ⟨fun _ _ => rfl, rfl⟩
theorem pz_r_r : pz_r d d := ⟨fun _ _ _ => rfl, rfl⟩
theorem pz_7_t {d1 d2 d3 : ya_D} (h : pz_7 d1 d2) (h' : pz_7 d2 d3) : pz_7 d1 d3 := ⟨fun a q => (h'.1 a q).trans (h.1 a q), h'.2.trans h.2⟩
theorem pz_r_t {d1 d2 d3 : ya_D} (h : pz_r d1 d2) (h' : pz_r d2 d3) : pz_r d1 d3 := ⟨fun a q q' => (h'.1 a q q').trans (h.1 a q q'), h'.2.trans h.2⟩
theorem pz_7_I {d' : ya_D} (hI : pm_I d M) (h : pz_7 d d') : pm_I d' M :=
  ⟨pm_C_c hI.1 (fun a k h1 h2 => congrFun (h.1 a (by omega)) k), pm_R_c hI.2.1 (fun k => congrFun (h.1 84 (by omega)) k), hI.2.2⟩
theorem pz_7_A {d' : ya_D} (hI : pm_I d M) (hY : pz_Y d M) (h : pz_7 d d') : pm_I d' M ∧ pz_Y d' M ∧ pz_F d d' :=
  ⟨pz_7_I hI h, pz_Y_c hY (fun a' h1 h2 => h.1 a' (by omega)) (by rw [h.2]) (congrFun (h.1 0 (by omega)) 9), fun a k g => congrFun (h.1 a (by unfold pz_s at g; omega)) k, fun a k _ _ _ _ => by rw [h.2]⟩
theorem pz_r_J {e' : ya_D} (hJ : pm_J e M) (h : pz_r e e') : pm_J e' M := ⟨pm_R_c hJ.1 (fun k => congrFun (h.1 84 (by omega) (by omega)) k), hJ.2⟩
theorem pz_r_A {d' : ya_D} (hI : pm_I d M) (hY : pz_Y d M) (h : pz_r d d') : pm_I d' M ∧ pz_Y d' M ∧ pz_F d d' :=
  ⟨⟨pm_C_c hI.1 (fun a k h1 h2 => congrFun (h.1 a (by omega) (by omega)) k), (pz_r_J hI.2 h).1, hI.2.2⟩, pz_Y_c hY (fun a' h1 h2 => h.1 a' (by omega) (by omega)) (by rw [h.2]) (congrFun (h.1 0 (by omega) (by omega)) 9), fun a k g => congrFun (h.1 a (by unfold pz_s at g; omega) (by unfold pz_s at g; omega)) k, fun a k _ _ _ _ => by rw [h.2]⟩
theorem sa_load (hI : pm_I d M) {s : Nat} (hs : s < M 0 4) : ∃ d', sa_L d' (pv_sc M s) (pv_sq M s) (pv_sp M s) (M 1 (M 5 s)) (M 0 1) ∧ pz_7 d d' ∧ f_X5_load 24 (nI s) d = some d' := by
  obtain ⟨⟨b0, b1, b2, b3, b4, b5⟩, w1, w2, w3, -, w5⟩ := pk_w hI.2.2
  have h3 := w3 s hs
  have hkk := w1 _ h3.1
  have hc := pk_c hI.1
  have c31 := (hc.2.2.2.2.2.2.2.2.1 s hs).1
  have c26 := hc.2.2.2.2.2.2.1 _ h3.1
  have key := pq_lp (G := fun fu i (σ : ya_D) => f_X5_load_L34 24 (nI s) (nI (M 5 s)) fu (nI i) σ) (E := some) (n := M 0 1)
    (I := fun i σ => σ.1 72 6 = nI (M 0 1) ∧ σ.1 72 7 = nI (M 1 (M 5 s)) ∧ (∀ t, t < i → σ.1 73 t = nI (pv_sp M s t) ∧ σ.1 74 t = nI (pv_sq M s t) ∧ σ.1 75 t = nI (pv_sc M s t)) ∧ pz_7 d σ)
    (Q := fun σ => σ.1 72 6 = nI (M 0 1) ∧ σ.1 72 7 = nI (M 1 (M 5 s)) ∧ (∀ t, t < M 0 1 → σ.1 73 t = nI (pv_sp M s t) ∧ σ.1 74 t = nI (pv_sq M s t) ∧ σ.1 75 t = nI (pv_sc M s t)) ∧ pz_7 d σ)
    (fun fu σ hI2 => ?_) (fun fu i σ hi hI2 => Or.inr ?_) ya_F 0 (ya_sI (ya_sI d 72 6 (nI (M 0 1))) 72 7 (nI (M 1 (M 5 s)))) (by omega) (by unfold ya_F; omega) ⟨(pn_o (by omega)).trans (pn_e ⟨rfl, rfl⟩), pn_e ⟨rfl, rfl⟩, fun t ht => by omega, fun a ha => (rw_n (by omega)).trans (rw_n (by omega)), rfl⟩
  · obtain ⟨σ, ⟨q1, q2, q3, q4⟩, z1⟩ := key
    refine ⟨σ, ⟨b1, hkk, fun i => ?_, fun t => ?_, fun t => ?_, q1, q2, q3⟩, q4, ?_⟩
    · unfold pv_sc
      split
      · exact pm_cm_le hI.2.2 hs (by assumption)
      · omega
    · unfold pv_sq
      split
      · exact pm_wd_le hI.2.2 (Nat.le_refl _)
      · omega
    · unfold pv_sp
      split
      · rename_i h; exact (w2 _ t h3.1 h).1
      · omega
    · unfold f_X5_load
      rw [pn_rI (by omega) (by omega), pb_s, hc.2.1, pb_pI, pb_s, c31, pn_rI (by omega) (by omega), pb_s, pb_pI, pb_s, pn_o (by omega), c26, pl_0]
      exact z1
  · obtain ⟨q1, q2, q3, q4⟩ := hI2
    refine ⟨σ, ⟨q1, q2, q3, q4⟩, ?_⟩
    show f_X5_load_L34 _ _ _ (fu + 1) _ _ = _
    rw [f_X5_load_L34, q1, if_pos (nI_le (Nat.le_refl _) (by omega))]
  · obtain ⟨q1, q2, q3, q4⟩ := hI2
    have hp := w2 _ i h3.1 hi
    have hC' : ∀ v1 v2, pm_C (ya_sI (ya_sI σ 73 i v1) 74 i v2) 24 M := fun v1 v2 => pm_C_c hI.1 (fun a k h1 h2 => by rw [rw_n (by omega), rw_n (by omega), q4.1 a (by omega)])
    have hC1 : ∀ v1, pm_C (ya_sI σ 73 i v1) 24 M := fun v1 => pm_C_c hI.1 (fun a k h1 h2 => by rw [rw_n (by omega), q4.1 a (by omega)])
    have p27 : σ.1 27 (20 * M 5 s + i) = nI (M 2 (20 * M 5 s + i)) := by rw [q4.1 27 (by omega)]; exact (hc.2.2.2.2.2.2.2.1 _ i h3.1 hi).1
    have hsp : pv_sp M s i = M 2 (20 * M 5 s + i) := if_pos hi
    have hsq : pv_sq M s i = pm_wd M (M 5 s) i (M 2 (20 * M 5 s + i)) (M 0 5) := if_pos hi
    have hsc : pv_sc M s i = pm_cm M s i := if_pos hi
    refine ⟨ya_sI (ya_sI (ya_sI σ 73 i (nI (pv_sp M s i))) 74 i (nI (pv_sq M s i))) 75 i (nI (pv_sc M s i)), ⟨?_, ?_, fun t ht => ?_, fun a ha => (rw_n (by omega)).trans ((rw_n (by omega)).trans ((rw_n (by omega)).trans (q4.1 a ha))), q4.2⟩, ?_⟩
    · rw [pn_o (by omega), pn_o (by omega), pn_o (by omega)]; exact q1
    · rw [pn_o (by omega), pn_o (by omega), pn_o (by omega)]; exact q2
    · by_cases c1 : t = i
      · subst c1
        refine ⟨?_, ?_, pn_e ⟨rfl, rfl⟩⟩
        · rw [pn_o (by omega), pn_o (by omega), pn_e ⟨rfl, rfl⟩]
        · rw [pn_o (by omega), pn_e ⟨rfl, rfl⟩]
      · simp (disch := omega) only [pn_o]
        exact q3 t (by omega)
    · show f_X5_load_L34 _ _ _ (fu + 1) _ _ = f_X5_load_L34 _ _ _ fu _ _
      rw [f_X5_load_L34, q1, if_neg (nI_ge hi (by omega)), pm_cell1, pb_s, pn_rI (by omega) (by omega), pb_s, p27, pn_wI (by omega) (by omega), pb_s, pn_rI (by omega) (by omega), pb_s, pn_e ⟨rfl, rfl⟩, pk_wanted (hC1 _) hI.2.2 (by omega) (by omega) (by omega), pb_s, pn_wI (by omega) (by omega), pb_s, pk_coming (hC' _ _) hI.2.2 hs hi, pb_s, pn_wI (by omega) (by omega), pb_s, nI_1, hsp, hsq, hsc]
theorem sa_bring7 (h : sa_L d c q P k n) : ∃ d', sa_L d' c q P k n ∧ pz_7 d d' ∧ f_X5_bring d = some (nI (pv_V c k q P n), d') := by
  obtain ⟨d', h1, h2, h3⟩ := sa_bring h
  exact ⟨d', sa_L_c h (fun a _ ha => h1 a (by omega)), ⟨fun a ha => h1 a (by omega), h2⟩, h3⟩
/-- at another price, with another number asked -/
theorem sa_at (h : sa_L d c q P k n) {j x a : Nat} (hj : j < n) (hx : x ≤ 99) (ha : a ≤ 63) : ∃ d', sa_L d' c q P k n ∧ pz_7 d d' ∧ f_X5_bringAt (nI j) (nI x) (nI a) d = some (nI (pv_V c k (pn_up q j a) (pn_up P j x) n), d') := by
  obtain ⟨b1, b2, b3, b4, b5, h6, h7, hr⟩ := h
  have hrj := hr j hj
  have h2 : sa_L (ya_sI (ya_sI d 73 j (nI x)) 74 j (nI a)) c (pn_up q j a) (pn_up P j x) k n := by
    refine ⟨b1, b2, b3, fun t => ?_, fun t => ?_, ?_, ?_, fun t ht => ⟨?_, ?_, ?_⟩⟩
    · unfold pn_up; split
      · exact ha
      · exact b4 t
    · unfold pn_up; split
      · exact hx
      · exact b5 t
    · rw [pn_o (by omega), pn_o (by omega)]; exact h6
    · rw [pn_o (by omega), pn_o (by omega)]; exact h7
    · rw [pn_o (by omega)]
      by_cases c1 : t = j
      · rw [c1, pn_e ⟨rfl, rfl⟩, pn_upe]
      · rw [pn_o (by omega), pn_upn c1]; exact (hr t ht).1
    · by_cases c1 : t = j
      · rw [c1, pn_e ⟨rfl, rfl⟩, pn_upe]
      · rw [pn_o (by omega), pn_o (by omega), pn_upn c1]; exact (hr t ht).2.1
    · rw [pn_o (by omega), pn_o (by omega)]; exact (hr t ht).2.2
  obtain ⟨d1, A1, A2, A3⟩ := sa_bring h2
  have hrow : ∀ a', a' < 76 ∨ 78 < a' → (ya_sI (ya_sI d1 73 j (nI (P j))) 74 j (nI (q j))).1 a' = d.1 a' := by
    intro a' h'
    by_cases c1 : a' = 74
    · subst c1
      funext t
      by_cases c2 : t = j
      · rw [c2, pn_e ⟨rfl, rfl⟩]; exact hrj.2.1.symm
      · rw [pn_o (Or.inr c2), pn_o (by omega), A1 74 (by omega), pn_o (Or.inr c2), pn_o (by omega)]
    · rw [rw_n c1]
      by_cases c2 : a' = 73
      · subst c2
        funext t
        by_cases c3 : t = j
        · rw [c3, pn_e ⟨rfl, rfl⟩]; exact hrj.1.symm
        · rw [pn_o (Or.inr c3), A1 73 (by omega), pn_o (by omega), pn_o (Or.inr c3)]
      · rw [rw_n c2, A1 a' h', rw_n c1, rw_n c2]
  refine ⟨ya_sI (ya_sI d1 73 j (nI (P j))) 74 j (nI (q j)), sa_L_c (d := d) ⟨b1, b2, b3, b4, b5, h6, h7, hr⟩ (fun a' h1 h2 => hrow a' (by omega)), ⟨fun a' h' => hrow a' (by omega), by rw [show (ya_sI (ya_sI d1 73 j (nI (P j))) 74 j (nI (q j))).2 = d1.2 from rfl, A2]; rfl⟩, ?_⟩
  unfold f_X5_bringAt
  rw [pn_rI (by omega) (by omega), pb_s, pn_rI (by omega) (by omega), pb_s, pn_wI (by omega) (by omega), pb_s, pn_wI (by omega) (by omega), pb_s, A3, ya_b2s, pn_wI (by omega) (by omega), pb_s, pn_wI (by omega) (by omega), pb_s, hrj.1, hrj.2.1]
theorem sa_without (h : sa_L d c q P k n) {j : Nat} (hj : j < n) : ∃ d', sa_L d' c q P k n ∧ pz_7 d d' ∧ f_X5_bringWithout (nI j) d = some (nI (pv_V c k (pn_up q j 0) P n), d') := by
  obtain ⟨b1, b2, b3, b4, b5, h6, h7, hr⟩ := h
  have hrj := hr j hj
  have h2 : sa_L (ya_sI d 74 j (nI 0)) c (pn_up q j 0) P k n := by
    refine ⟨b1, b2, b3, fun t => ?_, b5, ?_, ?_, fun t ht => ⟨?_, ?_, ?_⟩⟩
    · unfold pn_up; split
      · omega
      · exact b4 t
    · rw [pn_o (by omega)]; exact h6
    · rw [pn_o (by omega)]; exact h7
    · rw [pn_o (by omega)]; exact (hr t ht).1
    · by_cases c1 : t = j
      · rw [c1, pn_e ⟨rfl, rfl⟩, pn_upe]
      · rw [pn_o (by omega), pn_upn c1]; exact (hr t ht).2.1
    · rw [pn_o (by omega)]; exact (hr t ht).2.2
  obtain ⟨d1, A1, A2, A3⟩ := sa_bring h2
  have hrow : ∀ a', a' < 76 ∨ 78 < a' → (ya_sI d1 74 j (nI (q j))).1 a' = d.1 a' := by
    intro a' h'
    by_cases c1 : a' = 74
    · subst c1
      funext t
      by_cases c2 : t = j
      · rw [c2, pn_e ⟨rfl, rfl⟩]; exact hrj.2.1.symm
      · rw [pn_o (Or.inr c2), A1 74 (by omega), pn_o (Or.inr c2)]
    · rw [rw_n c1, A1 a' h', rw_n c1]
  refine ⟨ya_sI d1 74 j (nI (q j)), sa_L_c (d := d) ⟨b1, b2, b3, b4, b5, h6, h7, hr⟩ (fun a' h1 h2 => hrow a' (by omega)), ⟨fun a' h' => hrow a' (by omega), by rw [show (ya_sI d1 74 j (nI (q j))).2 = d1.2 from rfl, A2]; rfl⟩, ?_⟩
  unfold f_X5_bringWithout
  rw [pn_rI (by omega) (by omega), pb_s, pl_0, pn_wI (by omega) (by omega), pb_s, A3, ya_b2s, pn_wI (by omega) (by omega), pb_s, hrj.2.1]
end
