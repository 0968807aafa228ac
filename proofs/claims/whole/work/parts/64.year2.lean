/-! The year: the reference's market is as good as the class's; those who come, drawn, get -/
/-- M' offers and comes as M does; all else is the same -/
def pv_sim (M M' : pm_M) : Prop := (∀ g j, g ≠ 4 → g ≠ 7 → g ≠ 11 → M' g j = M g j) ∧ (∀ s t, s < M 0 4 → t < M 0 1 → (M' 7 s ≤ M 2 (20 * M 5 s + t) ↔ M 7 s ≤ M 2 (20 * M 5 s + t))) ∧ (∀ b t, b < M 0 5 → M 12 b ≤ t → t ≤ M 13 b → (M 2 (20 * M 9 b + t) ≤ M' 11 b ↔ M 2 (20 * M 9 b + t) ≤ M 11 b))
theorem pv_sim_r (M : pm_M) : pv_sim M M := ⟨fun _ _ _ _ _ => rfl, fun _ _ _ _ => Iff.rfl, fun _ _ _ _ _ => Iff.rfl⟩
/-- the reference's memory e, for a market M' that is as good as M -/
def ys (e : ya_D) (M M' : pm_M) : Prop := pm_R e 84 0 M' ∧ pm_W M ∧ pm_W M' ∧ pv_sim M M'
theorem ys_c {e e' : ya_D} {M M' : pm_M} (h : ys e M M') (q : e'.1 84 = e.1 84) : ys e' M M' := ⟨pm_R_c h.1 (fun k => congrFun q k), h.2⟩
section
variable {d e : ya_D} {M M' : pm_M} {a : Nat}
theorem ys_n (h : ys e M M') : e.1 84 0 = nI (M 0 1) ∧ e.1 84 1 = nI (M 0 3) ∧ e.1 84 2 = nI (M 0 4) ∧ e.1 84 3 = nI (M 0 5) := by
  obtain ⟨hR, hW, hW', s1, s2, s3⟩ := h
  have r := pk_r hR
  have q : ∀ j, M' 0 j = M 0 j := fun j => s1 0 j (by decide) (by decide) (by decide)
  simp only [q] at r
  exact ⟨r.2.1, r.2.2.2.1, r.2.2.2.2.1, r.2.2.2.2.2.1⟩
theorem ys_q (h : ys e M M') (g j : Nat) (h4 : g ≠ 4) (h7 : g ≠ 7) (h11 : g ≠ 11) : M' g j = M g j := h.2.2.2.1 g j h4 h7 h11
theorem ys_price (h : ys e M M') {x t : Nat} (hx : x < M 0 3) (ht : t < M 0 1) : f_X12_priceOf (nI x) (nI t) e = some (nI (M 2 (20 * x + t))) := by
  have q := ys_q h
  rw [pk_price (M := M') h.1 h.2.2.1 (by rw [q _ _ (by decide) (by decide) (by decide)]; exact hx) (by rw [q _ _ (by decide) (by decide) (by decide)]; exact ht), q _ _ (by decide) (by decide) (by decide)]
theorem ys_co (h : ys e M M') {x t b : Nat} (hb : b < M 0 5) : pm_co M' x t (M' 2 (20 * x + t)) b ↔ pm_co M x t (M 2 (20 * x + t)) b := by
  have q := ys_q h
  unfold pm_co
  rw [q 9 _ (by decide) (by decide) (by decide), q 12 _ (by decide) (by decide) (by decide), q 13 _ (by decide) (by decide) (by decide), q 2 _ (by decide) (by decide) (by decide)]
  constructor
  · rintro ⟨rfl, h2, h3, h4⟩
    exact ⟨rfl, h2, h3, (h.2.2.2.2.2 b t hb h2 h3).mp h4⟩
  · rintro ⟨rfl, h2, h3, h4⟩
    exact ⟨rfl, h2, h3, (h.2.2.2.2.2 b t hb h2 h3).mpr h4⟩
theorem ys_wants (h : ys e M M') {b x t : Nat} (hb : b < M 0 5) (hx : x < M 0 3) (ht : t < M 0 1) : f_X12_wantsOn (nI b) (nI x) (nI t) e = some (if pm_co M x t (M 2 (20 * x + t)) b then 1 else 0) := by
  have q := ys_q h
  rw [pk_wants (M := M') h.1 h.2.2.1 (by rw [q _ _ (by decide) (by decide) (by decide)]; exact hb) (by rw [q _ _ (by decide) (by decide) (by decide)]; exact hx) (by rw [q _ _ (by decide) (by decide) (by decide)]; exact ht)]
  by_cases c : pm_co M x t (M 2 (20 * x + t)) b
  · rw [if_pos c, if_pos ((ys_co h hb).mpr c)]
  · rw [if_neg c, if_neg (fun w => c ((ys_co h hb).mp w))]
theorem ys_asked (h : ys e M M') {x t : Nat} (hx : x < M 0 3) (ht : t < M 0 1) : f_X12_askedOf (nI x) (nI t) e = some (nI (pm_wd M x t (M 2 (20 * x + t)) (M 0 5))) := by
  have q := ys_q h
  rw [pk_asked (M := M') h.1 h.2.2.1 (by rw [q _ _ (by decide) (by decide) (by decide)]; exact hx) (by rw [q _ _ (by decide) (by decide) (by decide)]; exact ht)]
  have : pm_wd M' x t (M' 2 (20 * x + t)) (M' 0 5) = pm_wd M x t (M 2 (20 * x + t)) (M 0 5) := by
    unfold pm_wd
    rw [q 0 _ (by decide) (by decide) (by decide)]
    refine pn_sum_c _ (fun b hb => ?_)
    by_cases c : pm_co M x t (M 2 (20 * x + t)) b
    · rw [if_pos c, if_pos ((ys_co h hb).mpr c), q 10 _ (by decide) (by decide) (by decide)]
    · rw [if_neg c, if_neg (fun w => c ((ys_co h hb).mp w))]
  rw [this]
theorem ys_want (h : ys e M M') {b : Nat} (hb : b < M 0 5) : f_X12_of (nI b) (nI 1) e = some (nI (M 10 b)) := by
  have q := ys_q h
  obtain ⟨⟨_, _, _, _, _, _⟩, -, -, -, -, -⟩ := pk_w h.2.1
  rw [pk_of (by omega), ((pk_r h.1).2.2.2.2.2.2.2.2.2.2 b (by rw [q _ _ (by decide) (by decide) (by decide)]; exact hb)).2.1, q _ _ (by decide) (by decide) (by decide)]
theorem ys_of (h : ys e M M') {s x t : Nat} (hs : s < M 0 4) (ht : t < M 0 1) : pm_of_ M' x t s ↔ pm_of_ M x t s := by
  have q := ys_q h
  unfold pm_of_
  rw [q 5 _ (by decide) (by decide) (by decide), q 2 _ (by decide) (by decide) (by decide)]
  constructor
  · rintro ⟨rfl, h2⟩
    exact ⟨rfl, (h.2.2.2.2.1 s t hs ht).mp h2⟩
  · rintro ⟨rfl, h2⟩
    exact ⟨rfl, (h.2.2.2.2.1 s t hs ht).mpr h2⟩
theorem ys_offers (h : ys e M M') {s x t : Nat} (hs : s < M 0 4) (hx : x < M 0 3) (ht : t < M 0 1) : f_X12_offers (nI s) (nI x) (nI t) e = some (if pm_of_ M x t s then 1 else 0) := by
  have q := ys_q h
  rw [pk_offers (M := M') h.1 h.2.2.1 (by rw [q _ _ (by decide) (by decide) (by decide)]; exact hs) (by rw [q _ _ (by decide) (by decide) (by decide)]; exact hx) (by rw [q _ _ (by decide) (by decide) (by decide)]; exact ht)]
  by_cases c : pm_of_ M x t s
  · rw [if_pos c, if_pos ((ys_of h hs ht).mpr c)]
  · rw [if_neg c, if_neg (fun w => c ((ys_of h hs ht).mp w))]
theorem ys_thing (h : ys e M M') {s : Nat} (hs : s < M 0 4) : f_X12_thingOf (nI s) e = some (nI (M 5 s)) := by
  have q := ys_q h
  rw [pk_thing (M := M') h.1 h.2.2.1 (by rw [q _ _ (by decide) (by decide) (by decide)]; exact hs), q _ _ (by decide) (by decide) (by decide)]
theorem ys_keeps (h : ys e M M') {x : Nat} (hx : x < M 0 3) : f_X12_keepsOf (nI x) e = some (nI (M 1 x)) := by
  have q := ys_q h
  rw [pk_keeps (M := M') h.1 h.2.2.1 (by rw [q _ _ (by decide) (by decide) (by decide)]; exact hx), q _ _ (by decide) (by decide) (by decide)]
theorem ys_coming (h : ys e M M') {s t : Nat} (hs : s < M 0 4) (ht : t < M 0 1) : f_X12_comesTo (nI s) (nI t) e = some (nI (pm_cm M s t)) := by
  have q := ys_q h
  rw [pk_comesTo (M := M') h.1 h.2.2.1 (by rw [q _ _ (by decide) (by decide) (by decide)]; exact hs) (by rw [q _ _ (by decide) (by decide) (by decide)]; exact ht)]
  unfold pm_cm
  rw [q _ _ (by decide) (by decide) (by decide), q _ _ (by decide) (by decide) (by decide)]
theorem ys_stock (h : ys e M M') {s : Nat} {l : Nat → Nat} (hs : s < M 0 4) (h90 : ∀ c, c < 20 → e.1 90 (20 * s + c) = nI (l c)) : f_X12_stockOf (nI s) e = some (nI (pn_sum l (M 0 1))) := by
  have q := ys_q h
  rw [yr_stock (M := M') h.1 h.2.2.1 (by rw [q _ _ (by decide) (by decide) (by decide)]; exact hs) h90, q _ _ (by decide) (by decide) (by decide)]
theorem ys_there (h : ys e M M') {x t : Nat} {l : Nat → Nat → Nat} (hx : x < M 0 3) (ht : t < M 0 1) (h90 : ∀ s c, s < M 0 4 → c < 20 → e.1 90 (20 * s + c) = nI (l s c)) (k : Int32 → Option ya_D) : f_X12_sellsOn_L5 (nI x) (nI t) e k ya_F (nI 0) (nI 0) = k (nI (pn_sum (fun s => if pm_of_ M x t s then pn_sum (l s) (M 0 1) else 0) (M 0 4))) := by
  have q := ys_q h
  rw [yr_there (M := M') h.1 h.2.2.1 (by rw [q _ _ (by decide) (by decide) (by decide)]; exact hx) (by rw [q _ _ (by decide) (by decide) (by decide)]; exact ht) (fun s c hs hc => h90 s c (by rw [q 0 _ (by decide) (by decide) (by decide)] at hs; exact hs) hc)]
  have : pn_sum (fun s => if pm_of_ M' x t s then pn_sum (l s) (M' 0 1) else 0) (M' 0 4) = pn_sum (fun s => if pm_of_ M x t s then pn_sum (l s) (M 0 1) else 0) (M 0 4) := by
    rw [q 0 _ (by decide) (by decide) (by decide), q 0 _ (by decide) (by decide) (by decide)]
    refine pn_sum_c _ (fun s hs => ?_)
    by_cases c : pm_of_ M x t s
    · rw [if_pos c, if_pos ((ys_of h hs ht).mpr c)]
    · rw [if_neg c, if_neg (fun w => c ((ys_of h hs ht).mp w))]
  rw [this]
/-- an order of m buyers, the same in both -/
def yr_o (M : pm_M) (a : Nat) (x t m : Nat) (o : Nat → Nat) (d e : ya_D) (n : Nat) : Prop := m ≤ n ∧ n ≤ M 0 5 ∧ d.1 a 14 = nI m ∧ (∀ j, j < m → o j < M 0 5 ∧ d.1 (a + 14) j = nI (o j) ∧ e.1 101 j = nI (o j)) ∧ (∀ f : Nat → Nat, pn_sum (fun j => f (o j)) m = pn_sum (fun b => if pm_co M x t (M 2 (20 * x + t)) b then f b else 0) n)
theorem yr_gather (hC : pm_C d 24 M) (h : ys e M M') {x t : Nat} (hx : x < M 0 3) (ht : t < M 0 1) (ha : 42 ≤ a) (v : Int32) (k : Int32 → ya_D → Option (Int32 × ya_D)) :
    ∃ d' e' m o, yr_o M a x t m o d' e' (M 0 5) ∧ (∀ a', a' ≠ a → a' ≠ a + 14 → d'.1 a' = d.1 a') ∧ (∀ q, q ≠ 14 → d'.1 a q = d.1 a q) ∧ d'.2 = d.2 ∧ (∀ a', a' ≠ 101 → e'.1 a' = e.1 a') ∧ e'.2 = e.2 ∧ f_X10_gather a 35 (nI x) (nI t) (nI (M 2 (20 * x + t))) d = some d' ∧ f_X12_standIn_L6 (nI x) (nI t) v k ya_F (nI 0) (nI 0) e = k (nI m) e' := by
  have hw := pk_w h.2.1
  obtain ⟨⟨b0, b1, b2, b3, b4, b5⟩, -, w2, -, -, -⟩ := hw
  have hp := w2 x t hx ht
  have key := pq_lp2 (G := fun fu i (d : ya_D) => f_X10_gather_L8 a 35 (nI x) (nI t) (nI (M 2 (20 * x + t))) fu (nI i) d) (E := some) (G' := fun fu i (s : Nat × ya_D) => f_X12_standIn_L6 (nI x) (nI t) v k fu (nI s.1) (nI i) s.2) (E' := fun (s : Nat × ya_D) => k (nI s.1) s.2) (n := M 0 5)
    (I := fun i d' s => ∃ o, yr_o M a x t s.1 o d' s.2 i ∧ (∀ a', a' ≠ a → a' ≠ a + 14 → d'.1 a' = d.1 a') ∧ (∀ q, q ≠ 14 → d'.1 a q = d.1 a q) ∧ d'.2 = d.2 ∧ (∀ a', a' ≠ 101 → s.2.1 a' = e.1 a') ∧ s.2.2 = e.2)
    (Q := fun d' s => ∃ o, yr_o M a x t s.1 o d' s.2 (M 0 5) ∧ (∀ a', a' ≠ a → a' ≠ a + 14 → d'.1 a' = d.1 a') ∧ (∀ q, q ≠ 14 → d'.1 a q = d.1 a q) ∧ d'.2 = d.2 ∧ (∀ a', a' ≠ 101 → s.2.1 a' = e.1 a') ∧ s.2.2 = e.2)
    (fun fu d' s hI => ?_) (fun fu i d' s hi hI => ?_) ya_F 0 (ya_sI d a 14 (nI 0)) (0, e) (by omega) (by unfold ya_F; omega) ⟨fun _ => 0, ⟨Nat.le_refl _, Nat.zero_le _, pn_e ⟨rfl, rfl⟩, fun j hj => by omega, fun f => rfl⟩, fun a' h1 _ => rw_n h1, fun q hq => pn_o (Or.inr hq), rfl, fun _ _ => rfl, rfl⟩
  · obtain ⟨d', s, ⟨o, hI⟩, e1, e2⟩ := key
    refine ⟨d', s.2, s.1, o, hI.1, hI.2.1, hI.2.2.1, hI.2.2.2.1, hI.2.2.2.2.1, hI.2.2.2.2.2, ?_, e2⟩
    unfold f_X10_gather
    rw [ya_pI, Option.bind_some, pl_0]
    exact e1
  · obtain ⟨o, ho, f1, f2, f3, f4, f5⟩ := hI
    have c5 : d'.1 35 0 = nI (M 0 5) := by rw [f1 35 (by omega) (by omega)]; exact (pk_c hC).2.2.2.2.2.1
    refine ⟨d', s, ⟨o, ho, f1, f2, f3, f4, f5⟩, ?_, ?_⟩
    · show f_X10_gather_L8 _ _ _ _ _ (fu + 1) _ _ = _
      rw [f_X10_gather_L8, c5, if_pos (nI_le (Nat.le_refl _) (by omega))]
    · show f_X12_standIn_L6 _ _ _ _ (fu + 1) _ _ _ = _
      have r3 := (ys_n (ys_c h (f4 84 (by decide)))).2.2.2
      rw [f_X12_standIn_L6]
      simp (disch := omega) only [pl_0, pl_1, pl_2, pl_3, pl_4, pl_5, pl_6, pl_7, pl_8, pl_9, pl_10, pl_11, pl_12, pl_20, pl_24, pl_30, pl_31, pl_60, pl_99, pl_100, pl_111, pl_211, pl_311, pl_326, pl_400, pl_426, pb_s, ya_b2s, pj_0, pj_1, pj_2, pj_3, pb_pI, pb_pL, pm_cell1, pm_cell2, nI_add, pn_mul, pn_sub, pn_rI, pn_wI, pn_eq, pn_le, pn_lt, pm_min, pn_o, pn_e, pn_sI2, Nat.zero_add, Nat.add_zero, r3, Nat.le_refl, if_true]
  · obtain ⟨o, ⟨o1, o2, o3, o4, o5⟩, f1, f2, f3, f4, f5⟩ := hI
    have c5 : d'.1 35 0 = nI (M 0 5) := by rw [f1 35 (by omega) (by omega)]; exact (pk_c hC).2.2.2.2.2.1
    have hC' : pm_C d' 24 M := pm_C_c hC (fun a' k h1 h2 => by rw [f1 a' (by omega) (by omega)])
    have h' := ys_c h (f4 84 (by decide))
    have r3 := (ys_n h').2.2.2
    by_cases c : pm_co M x t (M 2 (20 * x + t)) i
    · refine ⟨ya_sI (ya_sI d' (a + 14) s.1 (nI i)) a 14 (nI (s.1 + 1)), (s.1 + 1, ya_sI s.2 101 s.1 (nI i)), ⟨pn_up o s.1 i, ⟨by omega, by omega, pn_e ⟨rfl, rfl⟩, fun j hj => ?_, fun f => ?_⟩, fun a' h1 h2 => (rw_n h1).trans ((rw_n h2).trans (f1 a' h1 h2)), fun q hq => ?_, f3, fun a' h1 => (rw_n h1).trans (f4 a' h1), f5⟩, ?_, ?_⟩
      · replace hj : j < s.1 + 1 := hj
        by_cases q : j = s.1
        · subst q
          rw [pn_upe]
          exact ⟨by omega, (pn_o (by omega)).trans (pn_e ⟨rfl, rfl⟩), pn_e ⟨rfl, rfl⟩⟩
        · rw [pn_upn q]
          obtain ⟨q1, q2, q3⟩ := o4 j (by omega)
          exact ⟨q1, (pn_o (by omega)).trans ((pn_o (by omega)).trans q2), (pn_o (by omega)).trans q3⟩
      · show pn_sum (fun j => f (pn_up o s.1 i j)) (s.1 + 1) = pn_sum _ (i + 1)
        rw [pn_sum, pn_sum, if_pos c, pn_upe, ← o5 f]
        refine congrArg (· + f i) (pn_sum_c _ (fun j hj => ?_))
        show f (pn_up o s.1 i j) = f (o j)
        rw [pn_upn (by omega)]
      · exact (pn_o (by omega)).trans ((pn_o (by omega)).trans (f2 q hq))
      · show f_X10_gather_L8 _ _ _ _ _ (fu + 1) _ _ = f_X10_gather_L8 _ _ _ _ _ fu _ _
        rw [f_X10_gather_L8, c5, if_neg (nI_ge hi (by omega)), pk_comes hC' h.2.1 hi (by omega) (by omega) (by omega), if_pos c]
        simp (disch := omega) only [pl_0, pl_1, pl_2, pl_3, pl_4, pl_5, pl_6, pl_7, pl_8, pl_9, pl_10, pl_11, pl_12, pl_20, pl_24, pl_30, pl_31, pl_60, pl_99, pl_100, pl_111, pl_211, pl_311, pl_326, pl_400, pl_426, pb_s, ya_b2s, pj_0, pj_1, pj_2, pj_3, pb_pI, pb_pL, pm_cell1, pm_cell2, nI_add, pn_mul, pn_sub, pn_rI, pn_wI, pn_eq, pn_le, pn_lt, pm_min, pn_o, pn_e, pn_sI2, Nat.zero_add, Nat.add_zero, o3, if_false, Nat.one_ne_zero]
      · show f_X12_standIn_L6 _ _ _ _ (fu + 1) _ _ _ = f_X12_standIn_L6 _ _ _ _ fu _ _ _
        rw [f_X12_standIn_L6]
        simp (disch := omega) only [pl_0, pl_1, pl_2, pl_3, pl_4, pl_5, pl_6, pl_7, pl_8, pl_9, pl_10, pl_11, pl_12, pl_20, pl_24, pl_30, pl_31, pl_60, pl_99, pl_100, pl_111, pl_211, pl_311, pl_326, pl_400, pl_426, pb_s, ya_b2s, pj_0, pj_1, pj_2, pj_3, pb_pI, pb_pL, pm_cell1, pm_cell2, nI_add, pn_mul, pn_sub, pn_rI, pn_wI, pn_eq, pn_le, pn_lt, pm_min, pn_o, pn_e, pn_sI2, Nat.zero_add, Nat.add_zero, r3, if_neg (Nat.not_le.mpr hi), ys_wants h' hi hx ht, if_pos c, if_false, Nat.one_ne_zero]
    · refine ⟨d', s, ⟨o, ⟨by omega, by omega, o3, o4, fun f => ?_⟩, f1, f2, f3, f4, f5⟩, ?_, ?_⟩
      · rw [pn_sum, if_neg c]; exact o5 f
      · show f_X10_gather_L8 _ _ _ _ _ (fu + 1) _ _ = f_X10_gather_L8 _ _ _ _ _ fu _ _
        rw [f_X10_gather_L8, c5, if_neg (nI_ge hi (by omega)), pk_comes hC' h.2.1 hi (by omega) (by omega) (by omega), if_neg c]
        simp (disch := omega) only [pl_0, pl_1, pl_2, pl_3, pl_4, pl_5, pl_6, pl_7, pl_8, pl_9, pl_10, pl_11, pl_12, pl_20, pl_24, pl_30, pl_31, pl_60, pl_99, pl_100, pl_111, pl_211, pl_311, pl_326, pl_400, pl_426, pb_s, ya_b2s, pj_0, pj_1, pj_2, pj_3, pb_pI, pb_pL, pm_cell1, pm_cell2, nI_add, pn_mul, pn_sub, pn_rI, pn_wI, pn_eq, pn_le, pn_lt, pm_min, pn_o, pn_e, pn_sI2, Nat.zero_add, Nat.add_zero, if_true]
      · show f_X12_standIn_L6 _ _ _ _ (fu + 1) _ _ _ = f_X12_standIn_L6 _ _ _ _ fu _ _ _
        rw [f_X12_standIn_L6]
        simp (disch := omega) only [pl_0, pl_1, pl_2, pl_3, pl_4, pl_5, pl_6, pl_7, pl_8, pl_9, pl_10, pl_11, pl_12, pl_20, pl_24, pl_30, pl_31, pl_60, pl_99, pl_100, pl_111, pl_211, pl_311, pl_326, pl_400, pl_426, pb_s, ya_b2s, pj_0, pj_1, pj_2, pj_3, pb_pI, pb_pL, pm_cell1, pm_cell2, nI_add, pn_mul, pn_sub, pn_rI, pn_wI, pn_eq, pn_le, pn_lt, pm_min, pn_o, pn_e, pn_sI2, Nat.zero_add, Nat.add_zero, r3, if_neg (Nat.not_le.mpr hi), ys_wants h' hi hx ht, if_neg c, if_true]
end
