/-! Tools: literals, reads and writes, loops with an invariant, loops in pairs -/
theorem pl_0 : (0 : Int32) = nI 0 := rfl
theorem pl_1 : (1 : Int32) = nI 1 := rfl
theorem pl_2 : (2 : Int32) = nI 2 := rfl
theorem pl_3 : (3 : Int32) = nI 3 := rfl
theorem pl_4 : (4 : Int32) = nI 4 := rfl
theorem pl_5 : (5 : Int32) = nI 5 := rfl
theorem pl_6 : (6 : Int32) = nI 6 := rfl
theorem pl_7 : (7 : Int32) = nI 7 := rfl
theorem pl_8 : (8 : Int32) = nI 8 := rfl
theorem pl_9 : (9 : Int32) = nI 9 := rfl
theorem pl_10 : (10 : Int32) = nI 10 := rfl
theorem pl_11 : (11 : Int32) = nI 11 := rfl
theorem pl_12 : (12 : Int32) = nI 12 := rfl
theorem pl_20 : (20 : Int32) = nI 20 := rfl
theorem pl_24 : (24 : Int32) = nI 24 := rfl
theorem pl_30 : (30 : Int32) = nI 30 := rfl
theorem pl_31 : (31 : Int32) = nI 31 := rfl
theorem pl_60 : (60 : Int32) = nI 60 := rfl
theorem pl_99 : (99 : Int32) = nI 99 := rfl
theorem pl_100 : (100 : Int32) = nI 100 := rfl
theorem pl_111 : (111 : Int32) = nI 111 := rfl
theorem pl_211 : (211 : Int32) = nI 211 := rfl
theorem pl_311 : (311 : Int32) = nI 311 := rfl
theorem pl_326 : (326 : Int32) = nI 326 := rfl
theorem pl_400 : (400 : Int32) = nI 400 := rfl
theorem pl_426 : (426 : Int32) = nI 426 := rfl
/-! rows of evaluation that are no 'rfl' to simp: the kernel would unfold loops by their fuel -/
theorem pb_s {α β : Type} (x : α) (f : α → Option β) : (some x).bind f = f x := by rw [Option.bind_some]
theorem ya_b2s {A B γ : Type} (x : A) (y : B) (f : A → B → Option γ) : ya_b2 (some (x, y)) f = f x y := by rw [ya_b2, Option.bind_some]
theorem pj_0 {γ : Type} (f : Option γ) (m : Option γ → Option γ) : ya_j0 f m = m f := by rw [ya_j0]
theorem pj_1 {A γ : Type} (f : A → Option γ) (m : (A → Option γ) → Option γ) : ya_j1 f m = m f := by rw [ya_j1]
theorem pj_2 {A B γ : Type} (f : A → B → Option γ) (m : (A → B → Option γ) → Option γ) : ya_j2 f m = m f := by rw [ya_j2]
theorem pj_3 {A B C γ : Type} (f : A → B → C → Option γ) (m : (A → B → C → Option γ) → Option γ) : ya_j3 f m = m f := by rw [ya_j3]
theorem pb_pI (d : ya_D) (a k : Nat) (v : Int32) : ya_pI d a k v = some (ya_sI d a k v) := by rw [ya_pI]
theorem pb_pL (d : ya_D) (a k : Nat) (v : Int64) : ya_pL d a k v = some (ya_sL d a k v) := by rw [ya_pL]
theorem pn_o {d : ya_D} {a k : Nat} {v : Int32} {a' k' : Nat} (h : a' ≠ a ∨ k' ≠ k) : (ya_sI d a k v).1 a' k' = d.1 a' k' := if_neg (fun e => h.elim (fun q => q e.1) (fun q => q e.2))
theorem pn_e {d : ya_D} {a k : Nat} {v : Int32} {a' k' : Nat} (h : a' = a ∧ k' = k) : (ya_sI d a k v).1 a' k' = v := if_pos h
/-- a loop by its places, with an invariant: it comes to its end's continuation E -/
theorem pq_lp {α β γ : Type} {G : Nat → Nat → α → Option γ} {E : β → Option γ} {n : Nat} {I : Nat → α → Prop} {Q : β → Prop} (hstop : ∀ fu s, I n s → ∃ y, Q y ∧ G (fu + 1) n s = E y) (hstep : ∀ fu i s, i < n → I i s → (∃ y, Q y ∧ G (fu + 1) i s = E y) ∨ ∃ s', I (i + 1) s' ∧ G (fu + 1) i s = G fu (i + 1) s') : ∀ fu i s, i ≤ n → n < i + fu → I i s → ∃ y, Q y ∧ G fu i s = E y := by
  intro fu
  induction fu with
  | zero => intro i s h1 h2; omega
  | succ fu ih =>
    intro i s h1 h2 hI
    rcases Nat.lt_or_ge i n with h | h
    · rcases hstep fu i s h hI with ⟨y, hy, e⟩ | ⟨s', hs, e⟩
      · exact ⟨y, hy, e⟩
      · rw [e]; exact ih (i + 1) s' (by omega) (by omega) hs
    · obtain rfl : i = n := by omega
      exact hstop fu s hI
/-- two loops side by side -/
theorem pq_lp2 {α β γ α' β' γ' : Type} {G : Nat → Nat → α → Option γ} {E : β → Option γ} {G' : Nat → Nat → α' → Option γ'} {E' : β' → Option γ'} {n : Nat} {I : Nat → α → α' → Prop} {Q : β → β' → Prop} (hstop : ∀ fu s s', I n s s' → ∃ y y', Q y y' ∧ G (fu + 1) n s = E y ∧ G' (fu + 1) n s' = E' y') (hstep : ∀ fu i s s', i < n → I i s s' → ∃ t t', I (i + 1) t t' ∧ G (fu + 1) i s = G fu (i + 1) t ∧ G' (fu + 1) i s' = G' fu (i + 1) t') : ∀ fu i s s', i ≤ n → n < i + fu → I i s s' → ∃ y y', Q y y' ∧ G fu i s = E y ∧ G' fu i s' = E' y' := by
  intro fu
  induction fu with
  | zero => intro i s s' h1 h2; omega
  | succ fu ih =>
    intro i s s' h1 h2 hI
    rcases Nat.lt_or_ge i n with h | h
    · obtain ⟨t, t', hs, e, e'⟩ := hstep fu i s s' h hI
      rw [e, e']; exact ih (i + 1) t t' (by omega) (by omega) hs
    · obtain rfl : i = n := by omega
      exact hstop fu s s' hI
theorem pn_sum_c {f g : Nat → Nat} : ∀ n, (∀ i, i < n → f i = g i) → pn_sum f n = pn_sum g n
  | 0, _ => rfl
  | n + 1, h => by rw [pn_sum, pn_sum, pn_sum_c n (fun i hi => h i (by omega)), h n (by omega)]
theorem pn_sum_0 {f : Nat → Nat} : ∀ n, (∀ i, i < n → f i = 0) → pn_sum f n = 0
  | 0, _ => rfl
  | n + 1, h => by rw [pn_sum, pn_sum_0 n (fun i hi => h i (by omega)), h n (by omega)]
theorem pn_sum_m {f : Nat → Nat} {m : Nat} : ∀ n, m ≤ n → pn_sum f m ≤ pn_sum f n
  | 0, h => by rw [Nat.le_zero.mp h]; exact Nat.le_refl _
  | n + 1, h => by
    rcases Nat.lt_or_ge m (n + 1) with c | c
    · have := pn_sum_m (f := f) (m := m) n (by omega)
      rw [pn_sum]; omega
    · rw [show m = n + 1 by omega]; exact Nat.le_refl _
theorem pn_sum_mm {f g : Nat → Nat} : ∀ n, (∀ i, i < n → f i ≤ g i) → pn_sum f n ≤ pn_sum g n
  | 0, _ => Nat.le_refl _
  | n + 1, h => by
    have h1 := pn_sum_mm n (fun i hi => h i (by omega))
    have h2 := h n (by omega)
    rw [pn_sum, pn_sum]; omega
theorem pn_sum_add {f g : Nat → Nat} : ∀ n, pn_sum (fun i => f i + g i) n = pn_sum f n + pn_sum g n
  | 0 => rfl
  | n + 1 => by
    have := pn_sum_add (f := f) (g := g) n
    simp only [pn_sum]; omega
/-- f with one place changed -/
def pn_up (f : Nat → Nat) (i v : Nat) : Nat → Nat := fun k => if k = i then v else f k
theorem pn_upe {f : Nat → Nat} {i v : Nat} : pn_up f i v i = v := if_pos rfl
theorem pn_upn {f : Nat → Nat} {i v k : Nat} (h : k ≠ i) : pn_up f i v k = f k := if_neg h
theorem pn_sum_up {f : Nat → Nat} {i v : Nat} : ∀ n, i < n → pn_sum (pn_up f i v) n + f i = pn_sum f n + v
  | 0, h => by omega
  | n + 1, h => by
    rw [pn_sum, pn_sum]
    by_cases c : n = i
    · subst c
      rw [pn_upe, pn_sum_c (f := pn_up f n v) (g := f) n (fun k hk => pn_upn (by omega))]; omega
    · have := pn_sum_up (f := f) (i := i) (v := v) n (by omega)
      rw [pn_upn c]; omega
/-- what is left of each, oldest first, when n are taken -/
def pv_tk (l : Nat → Nat) (n c : Nat) : Nat := l c - (n - pn_sum l c)
theorem pv_tk_sum {l : Nat → Nat} {n : Nat} : ∀ m, pn_sum (pv_tk l n) m = pn_sum l m - n
  | 0 => by simp only [pn_sum]; omega
  | m + 1 => by
    rw [pn_sum, pn_sum, pv_tk_sum m, pv_tk]; omega
theorem pv_tk_min {l : Nat → Nat} {n m c : Nat} (h : c < m) : pv_tk l (min n (pn_sum l m)) c = pv_tk l n c := by
  have h1 := pn_sum_m (f := l) (m := c + 1) m (by omega)
  rw [pn_sum] at h1
  unfold pv_tk; omega
theorem pv_tk_0 {l : Nat → Nat} {c : Nat} : pv_tk l 0 c = l c := by unfold pv_tk; omega
theorem pv_tk_le {l : Nat → Nat} {n c : Nat} : pv_tk l n c ≤ l c := by unfold pv_tk; omega
/-! The market, class and reference apart -/
section
variable {d : ya_D} {M : pm_M}
theorem pk_c (h : pm_C d 24 M) : d.1 24 0 = nI (M 0 0) ∧ d.1 24 1 = nI (M 0 1) ∧ d.1 24 2 = nI (M 0 2) ∧ d.1 25 0 = nI (M 0 3) ∧ d.1 30 0 = nI (M 0 4) ∧ d.1 35 0 = nI (M 0 5)
  ∧ (∀ x, x < M 0 3 → d.1 26 x = nI (M 1 x))
  ∧ (∀ x t, x < M 0 3 → t < M 0 1 → d.1 27 (20 * x + t) = nI (M 2 (20 * x + t)) ∧ d.1 28 (20 * x + t) = nI (M 3 (20 * x + t)) ∧ d.1 29 (20 * x + t) = pm_m (M 4 (20 * x + t)))
  ∧ (∀ s, s < M 0 4 → d.1 31 s = nI (M 5 s) ∧ d.1 32 s = nI (M 6 s) ∧ d.1 33 s = nI (M 7 s))
  ∧ (∀ s e, s < M 0 4 → e < M 0 1 → d.1 34 (20 * s + e) = nI (M 8 (20 * s + e)))
  ∧ (∀ b, b < M 0 5 → d.1 36 b = nI (M 9 b) ∧ d.1 37 b = nI (M 10 b) ∧ d.1 38 b = nI (M 11 b) ∧ d.1 39 b = nI (M 12 b) ∧ d.1 40 b = nI (M 13 b) ∧ d.1 41 b = nI (M 14 b)) := h
theorem pk_r (h : pm_R d 84 0 M) : d.1 84 4 = nI (M 0 0) ∧ d.1 84 0 = nI (M 0 1) ∧ d.1 84 5 = nI (M 0 2) ∧ d.1 84 1 = nI (M 0 3) ∧ d.1 84 2 = nI (M 0 4) ∧ d.1 84 3 = nI (M 0 5)
  ∧ (∀ x, x < M 0 3 → d.1 84 (6 + x) = nI (M 1 x))
  ∧ (∀ x t, x < M 0 3 → t < M 0 1 → d.1 84 (11 + (20 * x + t)) = nI (M 2 (20 * x + t)) ∧ d.1 84 (111 + (20 * x + t)) = nI (M 3 (20 * x + t)) ∧ d.1 84 (211 + (20 * x + t)) = pm_m (M 4 (20 * x + t)))
  ∧ (∀ s, s < M 0 4 → d.1 84 (311 + 3 * s) = nI (M 5 s) ∧ d.1 84 (311 + 3 * s + 2) = nI (M 6 s) ∧ d.1 84 (311 + 3 * s + 1) = nI (M 7 s))
  ∧ (∀ s e, s < M 0 4 → e < M 0 1 → d.1 84 (326 + (20 * s + e)) = nI (M 8 (20 * s + e)))
  ∧ (∀ b, b < M 0 5 → d.1 84 (426 + 6 * b) = nI (M 9 b) ∧ d.1 84 (426 + 6 * b + 1) = nI (M 10 b) ∧ d.1 84 (426 + 6 * b + 2) = nI (M 11 b) ∧ d.1 84 (426 + 6 * b + 3) = nI (M 12 b) ∧ d.1 84 (426 + 6 * b + 4) = nI (M 13 b) ∧ d.1 84 (426 + 6 * b + 5) = nI (M 14 b)) := by
  simpa only [pm_R, Nat.zero_add] using h
theorem pk_w (h : pm_W M) : (M 0 0 ≤ 2000 ∧ M 0 1 ≤ 20 ∧ M 0 2 ≤ 99 ∧ M 0 3 ≤ 5 ∧ M 0 4 ≤ 5 ∧ M 0 5 ≤ 7)
  ∧ (∀ x, x < M 0 3 → M 1 x ≤ 30)
  ∧ (∀ x t, x < M 0 3 → t < M 0 1 → M 2 (20 * x + t) ≤ 99 ∧ M 3 (20 * x + t) ≤ 99 ∧ M 4 (20 * x + t) ≤ 100)
  ∧ (∀ s, s < M 0 4 → M 5 s < M 0 3 ∧ M 6 s ≤ 99 ∧ M 7 s ≤ 99)
  ∧ (∀ s e, s < M 0 4 → e < M 0 1 → M 8 (20 * s + e) ≤ 99)
  ∧ (∀ b, b < M 0 5 → M 9 b < M 0 3 ∧ 1 ≤ M 10 b ∧ M 10 b ≤ 9 ∧ M 11 b ≤ 99 ∧ M 12 b ≤ M 13 b ∧ M 13 b < M 0 1 ∧ M 14 b ≤ 30) := by
  obtain ⟨h0, h1, h2, h3, h4, h5, _, _, h8, h9, h10, h11, h12⟩ := h
  exact ⟨⟨h0, h1, h2, h3, h4, h5⟩, h8, h9, h10, h11, h12⟩
/-- the class: a buyer comes -/
theorem pk_comes (hC : pm_C d 24 M) (hW : pm_W M) {b x t y : Nat} (hb : b < M 0 5) (hx : x < 2 ^ 31) (ht : t < 2 ^ 31) (hy : y < 2 ^ 31) : f_X1_comes 35 (nI b) (nI x) (nI t) (nI y) d = some (if pm_co M x t y b then 1 else 0) := by
  obtain ⟨-, -, -, -, -, -, -, -, -, -, c10⟩ := pk_c hC
  obtain ⟨⟨_, _, _, _, _, _⟩, -, -, -, -, w5⟩ := pk_w hW
  have hB := w5 b hb
  obtain ⟨e0, e1, e2, e3, e4, e5⟩ := c10 b hb
  unfold f_X1_comes ya_j0
  simp (disch := omega) only [pn_rI, Option.bind_some, Nat.reduceAdd, e0, e2, e3, e4, pn_eq, pn_lt]
  by_cases c0 : M 9 b = x
  · rw [if_pos c0]
    by_cases c1 : t < M 12 b
    · rw [if_pos c1, if_neg (by omega)]
    · rw [if_neg c1]
      by_cases c2 : M 13 b < t
      · rw [if_pos c2, if_neg (by omega)]
      · rw [if_neg c2]
        by_cases c3 : M 11 b < y
        · rw [if_pos c3, if_neg (by omega)]
        · rw [if_neg c3, if_pos (by omega)]
  · rw [if_neg c0, if_neg (by omega)]
/-- what the buyers who come want -/
def pm_wd (M : pm_M) (x t y n : Nat) : Nat := pn_sum (fun b => if pm_co M x t y b then M 10 b else 0) n
theorem pm_wd_le (hW : pm_W M) {x t y n : Nat} (hn : n ≤ M 0 5) : pm_wd M x t y n ≤ 63 := by
  obtain ⟨⟨_, _, _, _, _, _⟩, -, -, -, -, w5⟩ := pk_w hW
  have := pn_sum_le (f := fun b => if pm_co M x t y b then M 10 b else 0) (K := 9) n (fun i hi => by
    have := w5 i (by omega)
    split <;> omega)
  unfold pm_wd
  omega
theorem pk_wanted (hC : pm_C d 24 M) (hW : pm_W M) {x t y : Nat} (hx : x < 2 ^ 31) (ht : t < 2 ^ 31) (hy : y < 2 ^ 31) : f_X1_wanted 35 (nI x) (nI t) (nI y) d = some (nI (pm_wd M x t y (M 0 5))) := by
  have hc := pk_c hC
  obtain ⟨⟨_, _, _, _, _, _⟩, -, -, -, -, w5⟩ := pk_w hW
  unfold f_X1_wanted
  refine pn_lp (G := fun fu i => f_X1_wanted_L6 35 (nI x) (nI t) (nI y) d fu (nI (pm_wd M x t y i)) (nI i)) (n := M 0 5) (fun fu => ?_) (fun fu i hi => ?_) ya_F 0 (by omega) (by unfold ya_F; omega)
  · show f_X1_wanted_L6 _ _ _ _ _ (fu + 1) _ _ = _
    rw [f_X1_wanted_L6, hc.2.2.2.2.2.1, if_pos (nI_le (Nat.le_refl _) (by omega))]
  · show f_X1_wanted_L6 _ _ _ _ _ (fu + 1) _ _ = _
    rw [f_X1_wanted_L6, hc.2.2.2.2.2.1, if_neg (nI_ge hi (by omega)), pk_comes hC hW hi hx ht hy, Option.bind_some]
    have e := (hc.2.2.2.2.2.2.2.2.2.2 i hi).2.1
    have q : pm_wd M x t y (i + 1) = pm_wd M x t y i + if pm_co M x t y i then M 10 i else 0 := rfl
    by_cases c : pm_co M x t y i
    · rw [if_pos c] at q
      rw [if_pos c, q]
      simp (disch := omega) only [pl_0, pl_1, pl_2, pl_3, pl_4, pl_5, pl_6, pl_7, pl_8, pl_9, pl_10, pl_11, pl_12, pl_20, pl_24, pl_30, pl_31, pl_60, pl_99, pl_100, pl_111, pl_211, pl_311, pl_326, pl_400, pl_426, pb_s, ya_b2s, pj_0, pj_1, pj_2, pj_3, pb_pI, pb_pL, pm_cell1, pm_cell2, nI_add, pn_mul, pn_sub, pn_rI, pn_wI, pn_eq, pn_le, pn_lt, pm_min, pn_o, pn_e, pn_sI2, Nat.zero_add, Nat.add_zero, Nat.reduceAdd, e, if_false, Nat.one_ne_zero]
    · rw [if_neg c] at q
      rw [if_neg c, q]
      simp only [ya_j1, Nat.add_zero, nI_1, if_true]
/-- the reference: a buyer wants -/
theorem pk_of {b j : Nat} (h : 426 + 6 * b + j < 468) : f_X12_of (nI b) (nI j) d = some (d.1 84 (426 + 6 * b + j)) := pm_of h
theorem pk_price (hR : pm_R d 84 0 M) (hW : pm_W M) {x t : Nat} (hx : x < M 0 3) (ht : t < M 0 1) : f_X12_priceOf (nI x) (nI t) d = some (nI (M 2 (20 * x + t))) := pm_p2 ⟨hR, hW⟩ hx ht
theorem pk_wants (hR : pm_R d 84 0 M) (hW : pm_W M) {b x t : Nat} (hb : b < M 0 5) (hx : x < M 0 3) (ht : t < M 0 1) : f_X12_wantsOn (nI b) (nI x) (nI t) d = some (if pm_co M x t (M 2 (20 * x + t)) b then 1 else 0) := by
  obtain ⟨⟨_, _, _, _, _, _⟩, -, w2, -, -, w5⟩ := pk_w hW
  have hp := w2 x t hx ht
  have hB := w5 b hb
  obtain ⟨e0, e1, e2, e3, e4, e5⟩ := (pk_r hR).2.2.2.2.2.2.2.2.2.2 b hb
  unfold f_X12_wantsOn
  simp (disch := omega) only [pl_0, pl_1, pl_2, pl_3, pl_4, pl_5, pl_6, pl_7, pl_8, pl_9, pl_10, pl_11, pl_12, pl_20, pl_24, pl_30, pl_31, pl_60, pl_99, pl_100, pl_111, pl_211, pl_311, pl_326, pl_400, pl_426, pb_s, ya_b2s, pj_0, pj_1, pj_2, pj_3, pb_pI, pb_pL, pm_cell1, pm_cell2, nI_add, pn_mul, pn_sub, pn_rI, pn_wI, pn_eq, pn_le, pn_lt, pm_min, pn_o, pn_e, pn_sI2, Nat.zero_add, Nat.add_zero, pk_of, e0, e2, e3, e4, pn_in2]
  by_cases c0 : M 9 b = x
  · rw [if_pos c0]
    by_cases c1 : M 12 b ≤ t ∧ t ≤ M 13 b
    · simp (disch := omega) only [pl_0, pl_1, pl_2, pl_3, pl_4, pl_5, pl_6, pl_7, pl_8, pl_9, pl_10, pl_11, pl_12, pl_20, pl_24, pl_30, pl_31, pl_60, pl_99, pl_100, pl_111, pl_211, pl_311, pl_326, pl_400, pl_426, pb_s, ya_b2s, pj_0, pj_1, pj_2, pj_3, pb_pI, pb_pL, pm_cell1, pm_cell2, nI_add, pn_mul, pn_sub, pn_rI, pn_wI, pn_eq, pn_le, pn_lt, pm_min, pn_o, pn_e, pn_sI2, Nat.zero_add, Nat.add_zero, if_pos c1, pk_price hR hW hx ht]
      by_cases c3 : M 11 b < M 2 (20 * x + t)
      · simp only [if_pos c3, if_neg (show ¬ pm_co M x t (M 2 (20 * x + t)) b by omega), if_false, Nat.one_ne_zero]
      · simp only [if_neg c3, if_pos (show pm_co M x t (M 2 (20 * x + t)) b by omega), if_false, Nat.one_ne_zero]
    · simp only [if_neg c1, if_neg (show ¬ pm_co M x t (M 2 (20 * x + t)) b by omega), if_true]
  · rw [if_neg c0, if_neg (show ¬ pm_co M x t (M 2 (20 * x + t)) b by omega)]
theorem pk_asked (hR : pm_R d 84 0 M) (hW : pm_W M) {x t : Nat} (hx : x < M 0 3) (ht : t < M 0 1) : f_X12_askedOf (nI x) (nI t) d = some (nI (pm_wd M x t (M 2 (20 * x + t)) (M 0 5))) := by
  have hr := pk_r hR
  obtain ⟨⟨_, _, _, _, _, _⟩, -, -, -, -, w5⟩ := pk_w hW
  have e3 := hr.2.2.2.2.2.1
  unfold f_X12_askedOf
  refine pn_lp (G := fun fu i => f_X12_askedOf_L5 (nI x) (nI t) d fu (nI (pm_wd M x t (M 2 (20 * x + t)) i)) (nI i)) (n := M 0 5) (fun fu => ?_) (fun fu i hi => ?_) ya_F 0 (by omega) (by unfold ya_F; omega)
  · show f_X12_askedOf_L5 _ _ _ (fu + 1) _ _ = _
    rw [f_X12_askedOf_L5]
    simp (disch := omega) only [pl_0, pl_1, pl_2, pl_3, pl_4, pl_5, pl_6, pl_7, pl_8, pl_9, pl_10, pl_11, pl_12, pl_20, pl_24, pl_30, pl_31, pl_60, pl_99, pl_100, pl_111, pl_211, pl_311, pl_326, pl_400, pl_426, pb_s, ya_b2s, pj_0, pj_1, pj_2, pj_3, pb_pI, pb_pL, pm_cell1, pm_cell2, nI_add, pn_mul, pn_sub, pn_rI, pn_wI, pn_eq, pn_le, pn_lt, pm_min, pn_o, pn_e, pn_sI2, Nat.zero_add, Nat.add_zero, e3, Nat.le_refl, if_true]
  · show f_X12_askedOf_L5 _ _ _ (fu + 1) _ _ = _
    have e := (hr.2.2.2.2.2.2.2.2.2.2 i hi).2.1
    have q : pm_wd M x t (M 2 (20 * x + t)) (i + 1) = pm_wd M x t (M 2 (20 * x + t)) i + if pm_co M x t (M 2 (20 * x + t)) i then M 10 i else 0 := rfl
    rw [f_X12_askedOf_L5, q]
    by_cases c : pm_co M x t (M 2 (20 * x + t)) i
    · simp (disch := omega) only [pl_0, pl_1, pl_2, pl_3, pl_4, pl_5, pl_6, pl_7, pl_8, pl_9, pl_10, pl_11, pl_12, pl_20, pl_24, pl_30, pl_31, pl_60, pl_99, pl_100, pl_111, pl_211, pl_311, pl_326, pl_400, pl_426, pb_s, ya_b2s, pj_0, pj_1, pj_2, pj_3, pb_pI, pb_pL, pm_cell1, pm_cell2, nI_add, pn_mul, pn_sub, pn_rI, pn_wI, pn_eq, pn_le, pn_lt, pm_min, pn_o, pn_e, pn_sI2, Nat.zero_add, Nat.add_zero, e3, if_neg (Nat.not_le.mpr hi), pk_wants hR hW hi hx ht, if_pos c, pk_of, e, if_false, Nat.one_ne_zero]
    · simp (disch := omega) only [pl_0, pl_1, pl_2, pl_3, pl_4, pl_5, pl_6, pl_7, pl_8, pl_9, pl_10, pl_11, pl_12, pl_20, pl_24, pl_30, pl_31, pl_60, pl_99, pl_100, pl_111, pl_211, pl_311, pl_326, pl_400, pl_426, pb_s, ya_b2s, pj_0, pj_1, pj_2, pj_3, pb_pI, pb_pL, pm_cell1, pm_cell2, nI_add, pn_mul, pn_sub, pn_rI, pn_wI, pn_eq, pn_le, pn_lt, pm_min, pn_o, pn_e, pn_sI2, Nat.zero_add, Nat.add_zero, e3, if_neg (Nat.not_le.mpr hi), pk_wants hR hW hi hx ht, if_neg c, if_true]
theorem pk_seller3 {s j : Nat} (h : 311 + 3 * s + j < 468) : f_X12_seller3 (nI s) (nI j) d = some (d.1 84 (311 + 3 * s + j)) := by
  unfold f_X12_seller3
  simp (disch := omega) only [pl_0, pl_1, pl_2, pl_3, pl_4, pl_5, pl_6, pl_7, pl_8, pl_9, pl_10, pl_11, pl_12, pl_20, pl_24, pl_30, pl_31, pl_60, pl_99, pl_100, pl_111, pl_211, pl_311, pl_326, pl_400, pl_426, pb_s, ya_b2s, pj_0, pj_1, pj_2, pj_3, pb_pI, pb_pL, pm_cell1, pm_cell2, nI_add, pn_mul, pn_sub, pn_rI, pn_wI, pn_eq, pn_le, pn_lt, pm_min, pn_o, pn_e, pn_sI2, Nat.zero_add, Nat.add_zero]
theorem pk_thing (hR : pm_R d 84 0 M) (hW : pm_W M) {s : Nat} (hs : s < M 0 4) : f_X12_thingOf (nI s) d = some (nI (M 5 s)) := by
  obtain ⟨⟨_, _, _, _, _, _⟩, -, -, -, -, -⟩ := pk_w hW
  unfold f_X12_thingOf
  simp (disch := omega) only [pl_0, pl_1, pl_2, pl_3, pl_4, pl_5, pl_6, pl_7, pl_8, pl_9, pl_10, pl_11, pl_12, pl_20, pl_24, pl_30, pl_31, pl_60, pl_99, pl_100, pl_111, pl_211, pl_311, pl_326, pl_400, pl_426, pb_s, ya_b2s, pj_0, pj_1, pj_2, pj_3, pb_pI, pb_pL, pm_cell1, pm_cell2, nI_add, pn_mul, pn_sub, pn_rI, pn_wI, pn_eq, pn_le, pn_lt, pm_min, pn_o, pn_e, pn_sI2, Nat.zero_add, Nat.add_zero, pk_seller3, ((pk_r hR).2.2.2.2.2.2.2.2.1 s hs).1]
theorem pk_keeps (hR : pm_R d 84 0 M) (hW : pm_W M) {x : Nat} (hx : x < M 0 3) : f_X12_keepsOf (nI x) d = some (nI (M 1 x)) := by
  obtain ⟨⟨_, _, _, _, _, _⟩, -, -, -, -, -⟩ := pk_w hW
  unfold f_X12_keepsOf
  simp (disch := omega) only [pl_0, pl_1, pl_2, pl_3, pl_4, pl_5, pl_6, pl_7, pl_8, pl_9, pl_10, pl_11, pl_12, pl_20, pl_24, pl_30, pl_31, pl_60, pl_99, pl_100, pl_111, pl_211, pl_311, pl_326, pl_400, pl_426, pb_s, ya_b2s, pj_0, pj_1, pj_2, pj_3, pb_pI, pb_pL, pm_cell1, pm_cell2, nI_add, pn_mul, pn_sub, pn_rI, pn_wI, pn_eq, pn_le, pn_lt, pm_min, pn_o, pn_e, pn_sI2, Nat.zero_add, Nat.add_zero, (pk_r hR).2.2.2.2.2.2.1 x hx]
/-- what comes to a seller on a day -/
def pm_cm (M : pm_M) (s t : Nat) : Nat := M 8 (20 * s + t) + if t = 0 then M 6 s else 0
theorem pm_cm_le (hW : pm_W M) {s t : Nat} (hs : s < M 0 4) (ht : t < M 0 1) : pm_cm M s t ≤ 198 := by
  obtain ⟨-, -, -, w3, w4, -⟩ := pk_w hW
  have h1 := w3 s hs
  have h2 := w4 s t hs ht
  unfold pm_cm
  split <;> omega
theorem pk_coming (hC : pm_C d 24 M) (hW : pm_W M) {s t : Nat} (hs : s < M 0 4) (ht : t < M 0 1) : f_X6_coming 30 (nI s) (nI t) d = some (nI (pm_cm M s t)) := by
  obtain ⟨-, -, -, -, -, -, -, -, c8, c9, -⟩ := pk_c hC
  obtain ⟨⟨_, _, _, _, _, _⟩, -, -, -, -, -⟩ := pk_w hW
  unfold f_X6_coming pm_cm
  simp (disch := omega) only [pl_0, pl_1, pl_2, pl_3, pl_4, pl_5, pl_6, pl_7, pl_8, pl_9, pl_10, pl_11, pl_12, pl_20, pl_24, pl_30, pl_31, pl_60, pl_99, pl_100, pl_111, pl_211, pl_311, pl_326, pl_400, pl_426, pb_s, ya_b2s, pj_0, pj_1, pj_2, pj_3, pb_pI, pb_pL, pm_cell1, pm_cell2, nI_add, pn_mul, pn_sub, pn_rI, pn_wI, pn_eq, pn_le, pn_lt, pm_min, pn_o, pn_e, pn_sI2, Nat.zero_add, Nat.add_zero, Nat.reduceAdd, c9 s t hs ht]
  by_cases c : t = 0
  · simp only [if_pos c, (c8 s hs).2.1, nI_add, Option.bind_some]
  · simp only [if_neg c, nI_add, Nat.add_zero]
theorem pk_comesTo (hR : pm_R d 84 0 M) (hW : pm_W M) {s t : Nat} (hs : s < M 0 4) (ht : t < M 0 1) : f_X12_comesTo (nI s) (nI t) d = some (nI (pm_cm M s t)) := by
  obtain ⟨-, -, -, -, -, -, -, -, r8, r9, -⟩ := pk_r hR
  obtain ⟨⟨_, _, _, _, _, _⟩, -, -, -, -, -⟩ := pk_w hW
  unfold f_X12_comesTo pm_cm
  simp (disch := omega) only [pl_0, pl_1, pl_2, pl_3, pl_4, pl_5, pl_6, pl_7, pl_8, pl_9, pl_10, pl_11, pl_12, pl_20, pl_24, pl_30, pl_31, pl_60, pl_99, pl_100, pl_111, pl_211, pl_311, pl_326, pl_400, pl_426, pb_s, ya_b2s, pj_0, pj_1, pj_2, pj_3, pb_pI, pb_pL, pm_cell1, pm_cell2, nI_add, pn_mul, pn_sub, pn_rI, pn_wI, pn_eq, pn_le, pn_lt, pm_min, pn_o, pn_e, pn_sI2, Nat.zero_add, Nat.add_zero, r9 s t hs ht, pk_seller3, (r8 s hs).2.1]
  by_cases c : t = 0
  · simp only [if_pos c, nI_add]
  · simp only [if_neg c, nI_add, Nat.add_zero]
/-- the seller s offers thing x on day t -/
abbrev pm_of_ (M : pm_M) (x t s : Nat) : Prop := M 5 s = x ∧ M 7 s ≤ M 2 (20 * x + t)
theorem pk_offers (hR : pm_R d 84 0 M) (hW : pm_W M) {s x t : Nat} (hs : s < M 0 4) (hx : x < M 0 3) (ht : t < M 0 1) : f_X12_offers (nI s) (nI x) (nI t) d = some (if pm_of_ M x t s then 1 else 0) := by
  obtain ⟨⟨_, _, _, _, _, _⟩, -, w2, w3, -, -⟩ := pk_w hW
  have h2 := w2 x t hx ht
  have h3 := w3 s hs
  obtain ⟨-, -, -, -, -, -, -, -, r8, -, -⟩ := pk_r hR
  unfold f_X12_offers
  simp (disch := omega) only [pl_0, pl_1, pl_2, pl_3, pl_4, pl_5, pl_6, pl_7, pl_8, pl_9, pl_10, pl_11, pl_12, pl_20, pl_24, pl_30, pl_31, pl_60, pl_99, pl_100, pl_111, pl_211, pl_311, pl_326, pl_400, pl_426, pb_s, ya_b2s, pj_0, pj_1, pj_2, pj_3, pb_pI, pb_pL, pm_cell1, pm_cell2, nI_add, pn_mul, pn_sub, pn_rI, pn_wI, pn_eq, pn_le, pn_lt, pm_min, pn_o, pn_e, pn_sI2, Nat.zero_add, Nat.add_zero, pk_thing hR hW hs]
  by_cases c : M 5 s = x
  · simp (disch := omega) only [pl_0, pl_1, pl_2, pl_3, pl_4, pl_5, pl_6, pl_7, pl_8, pl_9, pl_10, pl_11, pl_12, pl_20, pl_24, pl_30, pl_31, pl_60, pl_99, pl_100, pl_111, pl_211, pl_311, pl_326, pl_400, pl_426, pb_s, ya_b2s, pj_0, pj_1, pj_2, pj_3, pb_pI, pb_pL, pm_cell1, pm_cell2, nI_add, pn_mul, pn_sub, pn_rI, pn_wI, pn_eq, pn_le, pn_lt, pm_min, pn_o, pn_e, pn_sI2, Nat.zero_add, Nat.add_zero, if_pos c, pk_seller3, (r8 s hs).2.2, pk_price hR hW hx ht]
    by_cases c2 : M 2 (20 * x + t) < M 7 s
    · rw [if_pos c2, if_neg (by omega)]
    · rw [if_neg c2, if_pos (by omega)]
  · rw [if_neg c, if_neg (by omega)]
end
