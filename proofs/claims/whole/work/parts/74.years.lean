/-! clears, years, lots -/
/-- counting down: the first n of k - 1, .., 0 that f takes, -1 without -/
def pn_dn (f : Nat → Bool) : Nat → Int32
  | 0 => -1
  | n + 1 => if f n then nI n else pn_dn f n
theorem pn_dec (k : Nat) : nI (k + 1) - 1 + (-1) = nI k - 1 := by
  rw [nI_pred, Int32.sub_eq_add_neg]
section
variable {d e : ya_D} {M M' : pm_M}
theorem pm_R_price {d : ya_D} {M : pm_M} {w o i v : Nat} (hi : i < 100) (hW : pm_W M) (h : pm_R d w o M) : pm_R (ya_sI d w (o + (11 + i)) (nI v)) w o (pm_up M 2 i v) := by
  obtain ⟨h0, h1, h2, h3, h4, h5, h6, h7, h8, h9, h10⟩ := h
  obtain ⟨_, b1, _, b3, b4, b5, _⟩ := hW
  refine ⟨(pn_sIn (by omega)).trans h0, (pn_sIn (by omega)).trans h1, (pn_sIn (by omega)).trans h2, (pn_sIn (by omega)).trans h3, (pn_sIn (by omega)).trans h4, (pn_sIn (by omega)).trans h5, ?_, ?_, ?_, ?_, ?_⟩
  · intro x hx
    replace hx : x < M 0 3 := hx
    exact (pn_sIn (by omega)).trans (h6 x hx)
  · intro x t hx ht
    replace hx : x < M 0 3 := hx
    replace ht : t < M 0 1 := ht
    have h7 := h7 x t hx ht
    refine ⟨?_, (pn_sIn (by omega)).trans h7.2.1, (pn_sIn (by omega)).trans h7.2.2⟩
    by_cases e : 20 * x + t = i
    · rw [e, pm_upe]
      exact pn_sIe
    · rw [pm_upn (fun _ => e), pn_sIn (by omega)]
      exact h7.1
  · intro s hs
    replace hs : s < M 0 4 := hs
    have h8 := h8 s hs
    exact ⟨(pn_sIn (by omega)).trans h8.1, (pn_sIn (by omega)).trans h8.2.1, (pn_sIn (by omega)).trans h8.2.2⟩
  · intro s e hs he
    replace hs : s < M 0 4 := hs
    replace he : e < M 0 1 := he
    exact (pn_sIn (by omega)).trans (h9 s e hs he)
  · intro b hb
    replace hb : b < M 0 5 := hb
    have h10 := h10 b hb
    exact ⟨(pn_sIn (by omega)).trans h10.1, (pn_sIn (by omega)).trans h10.2.1, (pn_sIn (by omega)).trans h10.2.2.1, (pn_sIn (by omega)).trans h10.2.2.2.1, (pn_sIn (by omega)).trans h10.2.2.2.2.1, (pn_sIn (by omega)).trans h10.2.2.2.2.2⟩
theorem pm_W_price {M : pm_M} {i v : Nat} (hv : v ≤ 99) (h : pm_W M) : pm_W (pm_up M 2 i v) := by
  obtain ⟨h0, h1, h2, h3, h4, h5, h6, h7, h8, h9, h10, h11, h12⟩ := h
  refine ⟨h0, h1, h2, h3, h4, h5, h6, h7, h8, fun x t hx ht => ⟨?_, (h9 x t hx ht).2.1, (h9 x t hx ht).2.2⟩, h10, h11, h12⟩
  by_cases e : 20 * x + t = i
  · rw [e, pm_upe]
    exact hv
  · rw [pm_upn (fun _ => e)]
    exact (h9 x t hx ht).1
theorem pz_clears1 (hI : pm_I d M) {x t : Nat} (S : Int32) (hx : x < M 0 3) (ht : t < M 0 1) : ∀ fu k, k < fu → k ≤ 100 → f_X11_clears_L30 (nI x) (nI t) S d fu (nI k - 1) = some (pn_dn (fun n => decide (¬ nI (pm_wd M x t n (M 0 5)) < S)) k, d) := by
  have hb := pm_b hI.2.2
  intro fu
  induction fu with
  | zero => intro k h; omega
  | succ fu ih =>
    intro k h h2
    cases k with
    | zero => rw [f_X11_clears_L30, if_pos (by decide), pn_dn]
    | succ k =>
      have e1 : nI (k + 1) - 1 = nI k := nI_pred k
      rw [f_X11_clears_L30, pn_dec, e1, if_neg (nI_pos (by omega)), pk_wanted hI.1 hI.2.2 (by omega) (by omega) (by omega), Option.bind_some, pn_dn]
      by_cases c : nI (pm_wd M x t k (M 0 5)) < S
      · rw [if_pos c, ih k (by omega) (by omega), if_neg (by simp [c])]
      · rw [if_neg c, if_pos (by simp [c])]
theorem pz_clears2 (hJ : pm_J e M) {x t : Nat} (S w5 : Int32) (hx : x < M 0 3) (ht : t < M 0 1) (K : Int32 → ya_D → Option (Int32 × ya_D)) : ∀ fu k e', k < fu → k ≤ 100 → (∀ a, a ≠ 84 → e'.1 a = e.1 a) → (∀ q, q ≠ 11 + (20 * x + t) → e'.1 84 q = e.1 84 q) → e'.2 = e.2 → ∃ e'', (∀ a, a ≠ 84 → e''.1 a = e.1 a) ∧ (∀ q, q ≠ 11 + (20 * x + t) → e''.1 84 q = e.1 84 q) ∧ e''.2 = e.2 ∧ f_X12_clears_L54 (nI x) (nI t) S (nI (11 + (20 * x + t))) w5 K fu (-1) (nI k - 1) e' = K (pn_dn (fun n => decide (¬ nI (pm_wd M x t n (M 0 5)) < S)) k) e'' := by
  have hb := pm_b hJ.2
  intro fu
  induction fu with
  | zero => intro k e' h; omega
  | succ fu ih =>
    intro k e' h h2 q1 q2 q3
    cases k with
    | zero =>
      refine ⟨e', q1, q2, q3, ?_⟩
      rw [f_X12_clears_L54, if_pos (by decide), pn_dn]
    | succ k =>
      have e1 : nI (k + 1) - 1 = nI k := nI_pred k
      have hR : pm_R (ya_sI e' 84 (11 + (20 * x + t)) (nI k)) 84 0 (pm_up M 2 (20 * x + t) k) := by
        have := pm_R_price (i := 20 * x + t) (v := k) (by omega) hJ.2 hJ.1
        rw [Nat.zero_add] at this
        refine pm_R_c this (fun q => ?_)
        by_cases c : q = 11 + (20 * x + t)
        · rw [c, pn_e ⟨rfl, rfl⟩, pn_e ⟨rfl, rfl⟩]
        · rw [pn_o (Or.inr c), pn_o (Or.inr c)]; exact q2 q c
      have hasked : f_X12_askedOf (nI x) (nI t) (ya_sI e' 84 (11 + (20 * x + t)) (nI k)) = some (nI (pm_wd M x t k (M 0 5))) := by
        rw [pk_asked hR (pm_W_price (by omega) hJ.2) hx ht]
        have : pm_up M 2 (20 * x + t) k 2 (20 * x + t) = k := pm_upe
        rw [this]
        rfl
      have g1 : ∀ a, a ≠ 84 → (ya_sI e' 84 (11 + (20 * x + t)) (nI k)).1 a = e.1 a := fun a ha => (rw_n ha).trans (q1 a ha)
      have g2 : ∀ q, q ≠ 11 + (20 * x + t) → (ya_sI e' 84 (11 + (20 * x + t)) (nI k)).1 84 q = e.1 84 q := fun q hq => (pn_o (Or.inr hq)).trans (q2 q hq)
      by_cases c : nI (pm_wd M x t k (M 0 5)) < S
      · obtain ⟨e'', p1, p2, p3, p4⟩ := ih k (ya_sI e' 84 (11 + (20 * x + t)) (nI k)) (by omega) (by omega) g1 g2 q3
        refine ⟨e'', p1, p2, p3, ?_⟩
        rw [f_X12_clears_L54, pn_dec, e1, if_neg (nI_pos (by omega)), if_pos rfl, pn_wI (by omega) (by omega), pb_s, hasked, pb_s, pj_1, if_pos c, pn_dn, if_neg (by simp [c])]
        exact p4
      · refine ⟨ya_sI e' 84 (11 + (20 * x + t)) (nI k), g1, g2, q3, ?_⟩
        rw [f_X12_clears_L54, pn_dec, e1, if_neg (nI_pos (by omega)), if_pos rfl, pn_wI (by omega) (by omega), pb_s, hasked, pb_s, pj_1, if_neg c, pn_dn, if_pos (by simp [c])]
        obtain ⟨fu, rfl⟩ : ∃ f', fu = f' + 1 := ⟨fu - 1, by omega⟩
        show f_X12_clears_L54 _ _ _ _ _ _ (fu + 1) _ _ _ = _
        rw [f_X12_clears_L54, if_neg (show ¬ nI k = -1 from pn_m1 (by omega))]
        split <;> rfl
theorem pz_clears (hI : pm_I d M) (hY : pz_Y d M) (v w : Int32) : pz_op d M (f_X11_clears v w) (f_X12_clears v w) := by
  have hb := pm_b hI.2.2
  by_cases e : pn_ok v (M 0 3) ∧ pn_ok w (M 0 1)
  · obtain ⟨x, hx, hx3, rfl⟩ := pn_ok_ex e.1
    obtain ⟨t, ht, ht3, rfl⟩ := pn_ok_ex e.2
    obtain ⟨d1, d2, l, g, p, A1, A2, A3, A4, A5, A6, A7, A8, A9, A10, A11, A12⟩ := pz_year hI hY
    have hc : d1.1 43 (20 * x + t) = d2.1 91 (20 * x + t) := (A3.2.2.2.2.2.2.1 x t hx ht ht).1
    have c1 := pz_clears1 A4 (d2.1 91 (20 * x + t)) hx ht ya_F 100 (by unfold ya_F; omega) (by omega)
    obtain ⟨e', B1, B2, B3, B4⟩ := pz_clears2 A5.2 (d2.1 91 (20 * x + t)) (d2.1 84 (11 + (20 * x + t))) hx ht (fun v6_98 d_98 => (ya_wI d_98 84 468 (nI (11 + (20 * x + t))) (d2.1 84 (11 + (20 * x + t)))).bind fun d106 => some (v6_98, d106)) ya_F 100 d2 (by unfold ya_F; omega) (by omega) (fun _ _ => rfl) (fun _ _ => rfl) rfl
    have row : ∀ a k, (ya_sI e' 84 (11 + (20 * x + t)) (d2.1 84 (11 + (20 * x + t)))).1 a k = d2.1 a k := by
      intro a k
      by_cases h84 : a = 84
      · subst h84
        by_cases q : k = 11 + (20 * x + t)
        · rw [q, pn_e ⟨rfl, rfl⟩]
        · rw [pn_o (Or.inr q)]; exact B2 k q
      · rw [pn_o (Or.inl h84)]; exact congrFun (B1 a h84) k
    have heq : ya_sI e' 84 (11 + (20 * x + t)) (d2.1 84 (11 + (20 * x + t))) = d2 := Prod.ext (funext fun a => funext fun k => row a k) B3
    refine ⟨pn_dn (fun n => decide (¬ nI (pm_wd M x t n (M 0 5)) < d2.1 91 (20 * x + t))) 100, d1, d2, M, ?_, ?_, A5, A7, A9⟩
    · unfold f_X11_clears
      rw [pm_areSo1 hI, Option.bind_some, if_pos e, if_neg pn_10, A1, Option.bind_some, pm_cell1, Option.bind_some, pn_rI (by omega) (by omega), Option.bind_some, hc]
      exact c1
    · unfold f_X12_clears
      rw [pm_areSo2 A4.2, Option.bind_some, if_pos e, if_neg pn_10, A2, Option.bind_some, pm_cell2, pb_s, pn_rI (by omega) (by omega), pb_s, pb_s, show (11 : Int32) = nI 11 from rfl, nI_add, pn_rI (by omega) (by omega), pb_s]
      refine B4.trans ?_
      rw [pn_wI (by omega) (by omega), pb_s, heq]
  · refine pz_no hI hY (r := -2) ?_ ?_
    · unfold f_X11_clears
      rw [pm_areSo1 hI, Option.bind_some, if_neg e, if_pos rfl]
    · unfold f_X12_clears
      rw [pm_areSo2 hI.2, Option.bind_some, if_neg e, if_pos rfl]
/-- years: from one class's memory, over any reference's -/
theorem pz_years0 (hI : pm_I d M) {S N b : Nat} (hS : S ≤ 2000000000) (hN : N ≤ 20) (hb : b < M 0 5) (he : ys e M M') : ∃ (r : Int32) (d' e' : ya_D), yr_f1 57 d d' ∧ yr_f2 e e' ∧ f_X11_years_L38 (nI S) (nI N) (nI b) ya_F (nI 0) (nI 0) d = some (r, d') ∧ f_X12_years_L36 (nI S) (nI N) (nI b) ya_F (nI 0) (nI 0) e = some (r, e') := by
  have hb5 := pm_b hI.2.2
  have key := pq_lp2 (G := fun fu i (s : Int32 × ya_D) => f_X11_years_L38 (nI S) (nI N) (nI b) fu s.1 (nI i) s.2) (E := fun s => some s) (G' := fun fu i (s : Int32 × ya_D) => f_X12_years_L36 (nI S) (nI N) (nI b) fu s.1 (nI i) s.2) (E' := fun s => some s) (n := N)
    (I := fun i s s' => s.1 = s'.1 ∧ yr_f1 57 d s.2 ∧ yr_f2 e s'.2) (Q := fun s s' => s.1 = s'.1 ∧ yr_f1 57 d s.2 ∧ yr_f2 e s'.2)
    (fun fu s s' hI => ?_) (fun fu i s s' hi hI2 => ?_) ya_F 0 (nI 0, d) (nI 0, e) (by omega) (by unfold ya_F; omega) ⟨rfl, ⟨fun _ _ => rfl, fun _ _ _ => rfl, fun _ _ _ => rfl⟩, ⟨fun _ _ _ => rfl, fun _ _ => rfl, fun _ _ _ => rfl⟩⟩
  · obtain ⟨s, s', ⟨q1, q2, q3⟩, k1, k2⟩ := key
    refine ⟨s.1, s.2, s'.2, q2, q3, k1, ?_⟩
    rw [q1]; exact k2
  · refine ⟨s, s', hI, ?_, ?_⟩
    · show f_X11_years_L38 _ _ _ (fu + 1) _ _ _ = _
      rw [f_X11_years_L38, if_pos (nI_le (Nat.le_refl _) (by omega))]
    · show f_X12_years_L36 _ _ _ (fu + 1) _ _ _ = _
      rw [f_X12_years_L36, if_pos (nI_le (Nat.le_refl _) (by omega))]
  · obtain ⟨q1, q2, q3⟩ := hI2
    obtain ⟨d1, e1, ⟨l, g, p, A1⟩, A2, A3, A4, A5⟩ := yr_run (a := 57) (S := S + i) (yr_f1_C (by omega) q2 hI.1) (yr_f2_s q3 he) (by omega) (by omega)
    have hp : d1.1 70 b = nI (p b) ∧ e1.1 99 b = nI (p b) := A1.2.2.2.2.2.1.2.1 b hb
    refine ⟨(s.1 + nI (p b), d1), (s'.1 + nI (p b), e1), ⟨by rw [q1], yr_f1_t q2 A2, yr_f2_t q3 A3⟩, ?_, ?_⟩
    · show f_X11_years_L38 _ _ _ (fu + 1) _ _ _ = _
      rw [f_X11_years_L38, if_neg (nI_ge hi (by omega)), nI_add, A4, Option.bind_some, pn_rI (by omega) (by omega), Option.bind_some, hp.1, nI_1]
    · show f_X12_years_L36 _ _ _ (fu + 1) _ _ _ = _
      rw [f_X12_years_L36, if_neg (nI_ge hi (by omega)), nI_l (by omega), nI_l (by omega), lN_add, A5, Option.bind_some, pn_rI (by omega) (by omega), Option.bind_some, hp.2, nI_1]
theorem pn_w1 (v : Int32) : f_X11_within v 1 20 = some (if 1 ≤ v.toInt ∧ v.toInt ≤ 20 then 1 else 0) := by
  have e0 : (v < 1) = (v.toInt < 1) := propext (Int32.lt_iff_toInt_lt.trans (by rw [show (1 : Int32).toInt = 1 from by decide]))
  have e1 : ((20 : Int32) < v) = (20 < v.toInt) := propext (Int32.lt_iff_toInt_lt.trans (by rw [show (20 : Int32).toInt = 20 from by decide]))
  simp only [f_X11_within, ya_j0, e0, e1]
  by_cases h0 : v.toInt < 1
  · rw [if_pos h0, if_neg (by omega)]
  · rw [if_neg h0]
    by_cases h1 : 20 < v.toInt
    · rw [if_pos h1, if_neg (by omega)]
    · rw [if_neg h1, if_pos (by omega)]
theorem pn_in1 (v : Int32) : f_X12_in v.toInt64 1 20 = some (if 1 ≤ v.toInt ∧ v.toInt ≤ 20 then 1 else 0) := by
  have e0 : (v.toInt64 < 1) = (v.toInt < 1) := propext (Int64.lt_iff_toInt_lt.trans (by rw [pn_i64, show (1 : Int64).toInt = 1 from by decide]))
  have e1 : ((20 : Int64) < v.toInt64) = (20 < v.toInt) := propext (Int64.lt_iff_toInt_lt.trans (by rw [pn_i64, show (20 : Int64).toInt = 20 from by decide]))
  simp only [f_X12_in, ya_j0, e0, e1]
  by_cases h0 : v.toInt < 1
  · rw [if_pos h0, if_neg (by omega)]
  · rw [if_neg h0]
    by_cases h1 : 20 < v.toInt
    · rw [if_pos h1, if_neg (by omega)]
    · rw [if_neg h1, if_pos (by omega)]
theorem pn_seed (v : Int32) : f_X12_isSeed v = some (if pn_ok v 2000000001 then 1 else 0) := by
  unfold f_X12_isSeed
  rw [pn_inN v 2000000001 2000000000 (by decide), Option.bind_some, pn_zz, Option.bind_some]
/-- after a run of the trial: the market, the year stand as before -/
theorem pz_f1_57 {d' : ya_D} (hI : pm_I d M) (hY : pz_Y d M) (f : yr_f1 57 d d') : pm_I d' M ∧ pz_Y d' M ∧ pz_F d d' :=
  ⟨pm_I_f1 hI (by omega) (by omega) f, pz_Y_c hY (fun a' h1 h2 => f.1 a' (by omega)) (funext fun k => f.2.2 42 k (by omega)) (by rw [f.1 0 (by omega)]), pz_F_f1 (Or.inr rfl) f⟩
theorem pz_f2 {d' : ya_D} (hI : pm_I d M) (hY : pz_Y d M) (f : yr_f2 d d') : pm_I d' M ∧ pz_Y d' M ∧ pz_F d d' :=
  ⟨pm_I_f2 hI f, pz_Y_c hY (fun a' h1 h2 => f.1 a' (by omega) (by omega)) (funext fun k => f.2.2 42 k (by omega)) (by rw [f.1 0 (by omega) (by omega)]), pz_F_f2 f⟩
theorem pz_years (hI : pm_I d M) (hY : pz_Y d M) (v w u : Int32) : pz_op d M (f_X11_years v w u) (f_X12_years v w u) := by
  by_cases e1 : pn_ok u (M 0 5)
  · by_cases e2 : pn_ok v 2000000001
    · by_cases e3 : 1 ≤ w.toInt ∧ w.toInt ≤ 20
      · obtain ⟨b, hb, hb3, rfl⟩ := pn_ok_ex e1
        obtain ⟨S, hS, hS3, rfl⟩ := pn_ok_ex e2
        obtain ⟨N, hN, hN3, rfl⟩ := pn_ok_ex (v := w) (n := 21) ⟨by omega, by omega⟩
        obtain ⟨r0, d1, -, A1, -, A3, -⟩ := pz_years0 (e := d) (M' := M) hI (S := S) (N := N) (by omega) (by omega) hb (ys_I hI)
        obtain ⟨B1, B2, B3⟩ := pz_f1_57 hI hY A1
        obtain ⟨r, d1', d2, C1, C2, C3, C4⟩ := pz_years0 (e := d1) (M' := M) hI (S := S) (N := N) (by omega) (by omega) hb (ys_I B1)
        rw [A3] at C3
        obtain ⟨rfl, rfl⟩ := Prod.mk.inj (Option.some.inj C3)
        obtain ⟨D1, D2, D3⟩ := pz_f2 B1 B2 C2
        refine ⟨r0, d1, d2, M, ?_, ?_, D1, D2, pz_F_t B3 D3⟩
        · unfold f_X11_years
          rw [pm_isBuyer1 hI, Option.bind_some, if_pos e1, pj_0, if_neg pn_10, pn_wN _ 2000000001 2000000000 (by decide), Option.bind_some, if_pos e2, if_neg pn_10, pn_w1, Option.bind_some, if_pos e3, if_neg pn_10, show (0 : Int32) = nI 0 from rfl]
          exact A3
        · unfold f_X12_years
          rw [pn_seed, Option.bind_some, if_pos e2, pj_0, if_neg pn_10, pn_in1, Option.bind_some, if_pos e3, if_neg pn_10, pm_isBuyer2 B1.2, Option.bind_some, if_pos e1, if_neg pn_10, show (0 : Int32) = nI 0 from rfl]
          exact C4
      · refine pz_no hI hY (r := -2) ?_ ?_
        · unfold f_X11_years
          rw [pm_isBuyer1 hI, Option.bind_some, if_pos e1, pj_0, if_neg pn_10, pn_wN _ 2000000001 2000000000 (by decide), Option.bind_some, if_pos e2, if_neg pn_10, pn_w1, Option.bind_some, if_neg e3, if_pos rfl]
        · unfold f_X12_years
          rw [pn_seed, Option.bind_some, if_pos e2, pj_0, if_neg pn_10, pn_in1, Option.bind_some, if_neg e3, if_pos rfl]
    · refine pz_no hI hY (r := -2) ?_ ?_
      · unfold f_X11_years
        rw [pm_isBuyer1 hI, Option.bind_some, if_pos e1, pj_0, if_neg pn_10, pn_wN _ 2000000001 2000000000 (by decide), Option.bind_some, if_neg e2, if_pos rfl]
      · unfold f_X12_years
        rw [pn_seed, Option.bind_some, if_neg e2, pj_0, if_pos rfl]
  · refine pz_no hI hY (r := -2) ?_ ?_
    · unfold f_X11_years
      rw [pm_isBuyer1 hI, Option.bind_some, if_neg e1, pj_0, if_pos rfl]
    · unfold f_X12_years
      rw [pn_seed, Option.bind_some, pj_0, pn_in1, Option.bind_some, pm_isBuyer2 hI.2, Option.bind_some, if_neg e1]
      by_cases e2 : pn_ok v 2000000001
      · rw [if_pos e2, if_neg pn_10]
        by_cases e3 : 1 ≤ w.toInt ∧ w.toInt ≤ 20
        · rw [if_pos e3, if_neg pn_10, if_pos rfl]
        · rw [if_neg e3, if_pos rfl]
      · rw [if_neg e2, if_pos rfl]
theorem pz_lots (hI : pm_I d M) (hY : pz_Y d M) (v u : Int32) : pz_op d M (f_X11_lots v u) (f_X12_lots v u) := by
  by_cases e1 : pn_ok u (M 0 5)
  · by_cases e2 : pn_ok v 2000000001
    · obtain ⟨b, hb, hb3, rfl⟩ := pn_ok_ex e1
      obtain ⟨S, hS, hS3, rfl⟩ := pn_ok_ex e2
      have hb5 := pm_b hI.2.2
      obtain ⟨d1, -, -, A2, -, A4, -⟩ := yr_run (a := 57) (S := S) hI.1 (ys_I hI) (by omega) (by omega)
      obtain ⟨B1, B2, B3⟩ := pz_f1_57 hI hY A2
      obtain ⟨d1', d2, ⟨l, g, p, C1⟩, C2, C3, C4, C5⟩ := yr_run (a := 57) (S := S) hI.1 (ys_I B1) (by omega) (by omega)
      rw [A4] at C4
      cases C4
      obtain ⟨D1, D2, D3⟩ := pz_f2 B1 B2 C3
      have hp : d1.1 70 b = nI (p b) ∧ d2.1 99 b = nI (p b) := C1.2.2.2.2.2.1.2.1 b hb
      refine ⟨nI (p b), d1, d2, M, ?_, ?_, D1, D2, pz_F_t B3 D3⟩
      · unfold f_X11_lots f_X11_years
        rw [pm_isBuyer1 hI, Option.bind_some, if_pos e1, pj_0, if_neg pn_10, pn_wN _ 2000000001 2000000000 (by decide), Option.bind_some, if_pos e2, if_neg pn_10, pn_w1, Option.bind_some, if_pos (show 1 ≤ (1 : Int32).toInt ∧ (1 : Int32).toInt ≤ 20 by decide), if_neg pn_10]
        show ya_b2 (f_X11_years_L38 (nI S) 1 (nI b) (9998 + 1 + 1) 0 0 d) _ = _
        rw [f_X11_years_L38, if_neg (by decide), show nI S + 0 = nI S from Int32.add_zero _, A4, Option.bind_some, pn_rI (by omega) (by omega), Option.bind_some, f_X11_years_L38, if_pos (by decide), ya_b2s, hp.1, Int32.zero_add]
      · unfold f_X12_lots
        rw [pn_seed, Option.bind_some, if_pos e2, pj_0, if_neg pn_10, pm_isBuyer2 B1.2, Option.bind_some, if_pos e1, if_neg pn_10, nI_l (by omega), C5, Option.bind_some, pn_rI (by omega) (by omega), Option.bind_some, hp.2]
    · refine pz_no hI hY (r := -2) ?_ ?_
      · unfold f_X11_lots f_X11_years
        rw [pm_isBuyer1 hI, Option.bind_some, if_pos e1, pj_0, if_neg pn_10, pn_wN _ 2000000001 2000000000 (by decide), Option.bind_some, if_neg e2, if_pos rfl, ya_b2s]
      · unfold f_X12_lots
        rw [pn_seed, Option.bind_some, if_neg e2, pj_0, if_pos rfl]
  · refine pz_no hI hY (r := -2) ?_ ?_
    · unfold f_X11_lots f_X11_years
      rw [pm_isBuyer1 hI, Option.bind_some, if_neg e1, pj_0, if_pos rfl, ya_b2s]
    · unfold f_X12_lots
      rw [pn_seed, Option.bind_some, pj_0, pm_isBuyer2 hI.2, Option.bind_some, if_neg e1]
      by_cases e2 : pn_ok v 2000000001
      · rw [if_pos e2, if_neg pn_10, if_pos rfl]
      · rw [if_neg e2, if_pos rfl]
end
