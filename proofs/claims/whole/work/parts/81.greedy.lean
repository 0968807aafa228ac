/-! A seller alone: what is wanting, if he always gives the oldest (numbers only) -/
/-- r days from day t on, g pieces gone: how many are wanting -/
def pv_N (c : Nat → Nat) (k : Nat) (s : Nat → Nat) : Nat → Nat → Nat → Nat
  | 0, _, _ => 0
  | r + 1, t, g => (max g (pn_sum c (t - k)) + s t - pn_sum c (t + 1)) + pv_N c k s r (t + 1) (min (pn_sum c (t + 1)) (max g (pn_sum c (t - k)) + s t))
section
variable {c s s' : Nat → Nat} {k k' : Nat}
theorem pv_N_c {z : Nat → Nat} : ∀ r t g, (∀ i, t ≤ i → i < t + r → s i = z i) → pv_N c k s r t g = pv_N c k z r t g
  | 0, _, _, _ => rfl
  | r + 1, t, g, h => by
    rw [pv_N, pv_N, h t (Nat.le_refl _) (by omega), pv_N_c r (t + 1) _ (fun i h1 h2 => h i (by omega) (by omega))]
/-- one more gone: no less is wanting, and at most one more -/
theorem pv_N_g : ∀ r t g, pv_N c k s r t g ≤ pv_N c k s r t (g + 1) ∧ pv_N c k s r t (g + 1) ≤ pv_N c k s r t g + 1
  | 0, _, _ => by simp only [pv_N]; omega
  | r + 1, t, g => by
    simp only [pv_N]
    by_cases h1 : g < pn_sum c (t - k)
    · rw [show max (g + 1) (pn_sum c (t - k)) = max g (pn_sum c (t - k)) by omega]; omega
    · rw [show max (g + 1) (pn_sum c (t - k)) = g + 1 by omega, show max g (pn_sum c (t - k)) = g by omega]
      by_cases h2 : g + s t < pn_sum c (t + 1)
      · rw [show min (pn_sum c (t + 1)) (g + 1 + s t) = g + s t + 1 by omega, show min (pn_sum c (t + 1)) (g + s t) = g + s t by omega]
        have := pv_N_g r (t + 1) (g + s t)
        omega
      · rw [show min (pn_sum c (t + 1)) (g + 1 + s t) = pn_sum c (t + 1) by omega, show min (pn_sum c (t + 1)) (g + s t) = pn_sum c (t + 1) by omega]
        omega
/-- .. and the more are gone and asked, the more so -/
theorem pv_N_gg : ∀ r t g g', g ≤ g' → (∀ i, s i ≤ s' i) → pv_N c k s r t (g + 1) + pv_N c k s' r t g' ≤ pv_N c k s r t g + pv_N c k s' r t (g' + 1)
  | 0, _, _, _, _, _ => by simp only [pv_N]; omega
  | r + 1, t, g, g', hg, hs => by
    have hst := hs t
    by_cases h1 : g < pn_sum c (t - k)
    · have e : pv_N c k s (r + 1) t (g + 1) = pv_N c k s (r + 1) t g := by
        simp only [pv_N]
        rw [show max (g + 1) (pn_sum c (t - k)) = max g (pn_sum c (t - k)) by omega]
      have := (pv_N_g (c := c) (k := k) (s := s') (r + 1) t g').1
      omega
    · simp only [pv_N]
      rw [show max (g + 1) (pn_sum c (t - k)) = g + 1 by omega, show max g (pn_sum c (t - k)) = g by omega, show max (g' + 1) (pn_sum c (t - k)) = g' + 1 by omega, show max g' (pn_sum c (t - k)) = g' by omega]
      by_cases h2 : g + s t < pn_sum c (t + 1)
      · rw [show min (pn_sum c (t + 1)) (g + 1 + s t) = g + s t + 1 by omega, show min (pn_sum c (t + 1)) (g + s t) = g + s t by omega]
        have i1 := pv_N_g (c := c) (k := k) (s := s) r (t + 1) (g + s t)
        by_cases h3 : g' + s' t < pn_sum c (t + 1)
        · rw [show min (pn_sum c (t + 1)) (g' + 1 + s' t) = g' + s' t + 1 by omega, show min (pn_sum c (t + 1)) (g' + s' t) = g' + s' t by omega]
          have := pv_N_gg r (t + 1) (g + s t) (g' + s' t) (by omega) hs
          omega
        · rw [show min (pn_sum c (t + 1)) (g' + 1 + s' t) = pn_sum c (t + 1) by omega, show min (pn_sum c (t + 1)) (g' + s' t) = pn_sum c (t + 1) by omega]
          omega
      · rw [show min (pn_sum c (t + 1)) (g + 1 + s t) = pn_sum c (t + 1) by omega, show min (pn_sum c (t + 1)) (g + s t) = pn_sum c (t + 1) by omega, show min (pn_sum c (t + 1)) (g' + 1 + s' t) = pn_sum c (t + 1) by omega, show min (pn_sum c (t + 1)) (g' + s' t) = pn_sum c (t + 1) by omega]
        omega
/-- one more asked on day j -/
theorem pv_N_s {j : Nat} : ∀ r t g, t ≤ j → pv_N c k s r t g ≤ pv_N c k (pn_up s j (s j + 1)) r t g ∧ pv_N c k (pn_up s j (s j + 1)) r t g ≤ pv_N c k s r t g + 1
  | 0, _, _, _ => by simp only [pv_N]; omega
  | r + 1, t, g, h => by
    simp only [pv_N]
    by_cases h0 : t = j
    · subst h0
      rw [pn_upe, pv_N_c (s := pn_up s t (s t + 1)) (z := s) r (t + 1) _ (fun i h1 _ => pn_upn (by omega))]
      generalize max g (pn_sum c (t - k)) = y
      by_cases h2 : y + s t < pn_sum c (t + 1)
      · rw [show min (pn_sum c (t + 1)) (y + (s t + 1)) = y + s t + 1 by omega, show min (pn_sum c (t + 1)) (y + s t) = y + s t by omega]
        have := pv_N_g (c := c) (k := k) (s := s) r (t + 1) (y + s t)
        omega
      · rw [show min (pn_sum c (t + 1)) (y + (s t + 1)) = pn_sum c (t + 1) by omega, show min (pn_sum c (t + 1)) (y + s t) = pn_sum c (t + 1) by omega]
        omega
    · rw [pn_upn h0]
      have := pv_N_s (j := j) r (t + 1) (min (pn_sum c (t + 1)) (max g (pn_sum c (t - k)) + s t)) (by omega)
      omega
theorem pv_N_ss {j : Nat} : ∀ r t g g', t ≤ j → g ≤ g' → (∀ i, s i ≤ s' i) → pv_N c k (pn_up s j (s j + 1)) r t g + pv_N c k s' r t g' ≤ pv_N c k s r t g + pv_N c k (pn_up s' j (s' j + 1)) r t g'
  | 0, _, _, _, _, _, _ => by simp only [pv_N]; omega
  | r + 1, t, g, g', h, hg, hs => by
    have hst := hs t
    simp only [pv_N]
    by_cases h0 : t = j
    · subst h0
      rw [pn_upe, pn_upe, pv_N_c (s := pn_up s t (s t + 1)) (z := s) r (t + 1) _ (fun i h1 _ => pn_upn (by omega)), pv_N_c (s := pn_up s' t (s' t + 1)) (z := s') r (t + 1) _ (fun i h1 _ => pn_upn (by omega))]
      generalize hy : max g (pn_sum c (t - k)) = y
      generalize hy' : max g' (pn_sum c (t - k)) = y'
      by_cases h2 : y + s t < pn_sum c (t + 1)
      · rw [show min (pn_sum c (t + 1)) (y + (s t + 1)) = y + s t + 1 by omega, show min (pn_sum c (t + 1)) (y + s t) = y + s t by omega]
        have i1 := pv_N_g (c := c) (k := k) (s := s) r (t + 1) (y + s t)
        by_cases h3 : y' + s' t < pn_sum c (t + 1)
        · rw [show min (pn_sum c (t + 1)) (y' + (s' t + 1)) = y' + s' t + 1 by omega, show min (pn_sum c (t + 1)) (y' + s' t) = y' + s' t by omega]
          have := pv_N_gg (c := c) (k := k) r (t + 1) (y + s t) (y' + s' t) (by omega) hs
          omega
        · rw [show min (pn_sum c (t + 1)) (y' + (s' t + 1)) = pn_sum c (t + 1) by omega, show min (pn_sum c (t + 1)) (y' + s' t) = pn_sum c (t + 1) by omega]
          omega
      · rw [show min (pn_sum c (t + 1)) (y + (s t + 1)) = pn_sum c (t + 1) by omega, show min (pn_sum c (t + 1)) (y + s t) = pn_sum c (t + 1) by omega, show min (pn_sum c (t + 1)) (y' + (s' t + 1)) = pn_sum c (t + 1) by omega, show min (pn_sum c (t + 1)) (y' + s' t) = pn_sum c (t + 1) by omega]
        omega
    · rw [pn_upn h0, pn_upn h0]
      have := pv_N_ss (j := j) r (t + 1) (min (pn_sum c (t + 1)) (max g (pn_sum c (t - k)) + s t)) (min (pn_sum c (t + 1)) (max g' (pn_sum c (t - k)) + s' t)) (by omega) (by omega) hs
      omega
/-- what keeps longer is wanting less -/
theorem pv_N_k (hk : k ≤ k') : ∀ r t g g', g' ≤ g → pv_N c k' s r t g' ≤ pv_N c k s r t g
  | 0, _, _, _, _ => by simp only [pv_N]; omega
  | r + 1, t, g, g', hg => by
    simp only [pv_N]
    have h1 := pn_sum_m (f := c) (m := t - k') (t - k) (by omega)
    have := pv_N_k hk r (t + 1) (min (pn_sum c (t + 1)) (max g (pn_sum c (t - k)) + s t)) (min (pn_sum c (t + 1)) (max g' (pn_sum c (t - k')) + s t)) (by omega)
    omega
/-- wanting in all of n days -/
abbrev pv_M (c : Nat → Nat) (k : Nat) (s : Nat → Nat) (n : Nat) : Nat := pv_N c k s n 0 0
theorem pn_up_up {f : Nat → Nat} {j x y : Nat} : pn_up (pn_up f j x) j y = pn_up f j y := by
  funext i
  unfold pn_up
  split <;> rfl
theorem pn_up_id {f : Nat → Nat} {j : Nat} : pn_up f j (f j) = f := by
  funext i
  unfold pn_up
  split
  · rename_i h; rw [h]
  · rfl
/-- day j asks x more -/
theorem pv_M_a {n j : Nat} (x : Nat) : pv_M c k s n ≤ pv_M c k (pn_up s j (s j + x)) n ∧ pv_M c k (pn_up s j (s j + x)) n ≤ pv_M c k s n + x := by
  induction x with
  | zero => rw [Nat.add_zero, pn_up_id]; omega
  | succ x ih =>
    have := pv_N_s (c := c) (k := k) (s := pn_up s j (s j + x)) (j := j) n 0 0 (Nat.zero_le _)
    rw [pn_upe, pn_up_up] at this
    unfold pv_M at *
    rw [show s j + (x + 1) = s j + x + 1 by omega]
    omega
theorem pv_M_aa {n j : Nat} (x : Nat) (hs : ∀ i, s i ≤ s' i) : pv_M c k (pn_up s j (s j + x)) n + pv_M c k s' n ≤ pv_M c k s n + pv_M c k (pn_up s' j (s' j + x)) n := by
  induction x with
  | zero => rw [Nat.add_zero, Nat.add_zero, pn_up_id, pn_up_id]; omega
  | succ x ih =>
    have := pv_N_ss (c := c) (k := k) (s := pn_up s j (s j + x)) (s' := pn_up s' j (s' j + x)) (j := j) n 0 0 0 (Nat.zero_le _) (Nat.le_refl _) (fun i => by
      have := hs i
      have := hs j
      unfold pn_up
      split <;> omega)
    rw [pn_upe, pn_up_up, pn_upe, pn_up_up] at this
    unfold pv_M at *
    rw [show s j + (x + 1) = s j + x + 1 by omega, show s' j + (x + 1) = s' j + x + 1 by omega]
    omega
/-- from s to s', no more than what is asked more -/
theorem pv_M_lip {n : Nat} (hs : ∀ i, i < n → s i ≤ s' i) : pv_M c k s n ≤ pv_M c k s' n ∧ pv_M c k s' n + pn_sum s n ≤ pv_M c k s n + pn_sum s' n := by
  have key : ∀ m, m ≤ n → pv_M c k s n ≤ pv_M c k (fun i => if i < m then s' i else s i) n ∧ pv_M c k (fun i => if i < m then s' i else s i) n + pn_sum s m ≤ pv_M c k s n + pn_sum s' m := by
    intro m
    induction m with
    | zero =>
      intro _
      have : (fun i => if i < 0 then s' i else s i) = s := by funext i; rw [if_neg (by omega)]
      rw [this, pn_sum, pn_sum]; omega
    | succ m ih =>
      intro hm
      have h1 := ih (by omega)
      have h2 := hs m (by omega)
      have h3 := pv_M_a (c := c) (k := k) (s := fun i => if i < m then s' i else s i) (n := n) (j := m) (s' m - s m)
      have e1 : (if m < m then s' m else s m) = s m := if_neg (by omega)
      have e2 : pn_up (fun i => if i < m then s' i else s i) m ((if m < m then s' m else s m) + (s' m - s m)) = fun i => if i < m + 1 then s' i else s i := by
        funext i
        unfold pn_up
        rw [e1]
        by_cases c1 : i = m
        · rw [if_pos c1, if_pos (by omega), c1]; omega
        · rw [if_neg c1]
          show (if i < m then s' i else s i) = _
          by_cases c2 : i < m
          · rw [if_pos c2, if_pos (by omega)]
          · rw [if_neg c2, if_neg (by omega)]
      rw [e2] at h3
      rw [pn_sum, pn_sum]
      omega
  have h := key n (Nat.le_refl _)
  have e : pv_M c k (fun i => if i < n then s' i else s i) n = pv_M c k s' n := pv_N_c n 0 0 (fun i _ h2 => if_pos (by omega))
  rw [e] at h
  exact h
end
/-! The greatest that can be had -/
/-- what is asked on the days of D -/
def pv_on (D : Nat → Bool) (q : Nat → Nat) : Nat → Nat := fun t => if D t then q t else 0
theorem pv_on_t {D : Nat → Bool} {q : Nat → Nat} {t : Nat} (h : D t = true) : pv_on D q t = q t := if_pos h
theorem pv_on_f {D : Nat → Bool} {q : Nat → Nat} {t : Nat} (h : D t = false) : pv_on D q t = 0 := if_neg (by rw [h]; decide)
/-- days at w and dearer -/
def pv_w (P : Nat → Nat) (w : Nat) : Nat → Bool := fun t => decide (w ≤ P t)
/-- the most that can be sold of what is asked on D -/
def pv_R (c : Nat → Nat) (k : Nat) (q : Nat → Nat) (n : Nat) (D : Nat → Bool) : Nat := pn_sum (pv_on D q) n - pv_M c k (pv_on D q) n
/-- the most that all can bring -/
def pv_V (c : Nat → Nat) (k : Nat) (q P : Nat → Nat) (n : Nat) : Nat := pn_sum (fun w => pv_R c k q n (pv_w P (w + 1))) 99
section
variable {c q P : Nat → Nat} {k n : Nat}
theorem pv_M_c {x y : Nat → Nat} (h : ∀ t, t < n → x t = y t) : pv_M c k x n = pv_M c k y n := pv_N_c n 0 0 (fun i _ h2 => h i (by omega))
/-- where something is wanting already, one more asked is one more wanting -/
theorem pv_phi1 {s : Nat → Nat} {j x : Nat} (h0 : pv_M c k (pn_up s j 0) n = 0) (hx : 1 ≤ pv_M c k (pn_up s j x) n) : pv_M c k (pn_up s j (x + 1)) n = pv_M c k (pn_up s j x) n + 1 := by
  have hsl : ∀ y, y ≤ x → pv_M c k (pn_up s j (y + 1)) n + pv_M c k (pn_up s j x) n ≤ pv_M c k (pn_up s j y) n + pv_M c k (pn_up s j (x + 1)) n := by
    intro y hy
    have := pv_N_ss (c := c) (k := k) (s := pn_up s j y) (s' := pn_up s j x) (j := j) n 0 0 0 (Nat.zero_le _) (Nat.le_refl _) (fun i => by unfold pn_up; split <;> omega)
    rw [pn_upe, pn_up_up, pn_upe, pn_up_up] at this
    exact this
  have hle := (pv_M_a (c := c) (k := k) (s := pn_up s j x) (n := n) (j := j) 1)
  rw [pn_upe, pn_up_up] at hle
  by_cases e : pv_M c k (pn_up s j (x + 1)) n = pv_M c k (pn_up s j x) n
  · have : ∀ y, y ≤ x → pv_M c k (pn_up s j y) n = 0 := by
      intro y
      induction y with
      | zero => intro _; exact h0
      | succ y ih =>
        intro hy
        have h1 := ih (by omega)
        have h2 := hsl y (by omega)
        omega
    have := this x (Nat.le_refl _)
    omega
  · omega
theorem pv_phi {s : Nat → Nat} {j Q : Nat} (h0 : pv_M c k (pn_up s j 0) n = 0) : pv_M c k (pn_up s j Q) n ≤ Q ∧ pv_M c k (pn_up s j (Q - pv_M c k (pn_up s j Q) n)) n = 0 ∧ ∀ f, f ≤ Q → (pv_M c k (pn_up s j f) n = 0 ↔ f ≤ Q - pv_M c k (pn_up s j Q) n) := by
  have hm : pv_M c k (pn_up s j Q) n ≤ Q := by
    have := (pv_M_a (c := c) (k := k) (s := pn_up s j 0) (n := n) (j := j) Q).2
    rw [pn_upe, pn_up_up, Nat.zero_add] at this
    omega
  generalize hM : pv_M c k (pn_up s j Q) n = m at hm
  have hz : pv_M c k (pn_up s j (Q - m)) n = 0 := by
    refine Classical.byContradiction (fun hne => ?_)
    have : ∀ i, pv_M c k (pn_up s j (Q - m + i)) n = pv_M c k (pn_up s j (Q - m)) n + i := by
      intro i
      induction i with
      | zero => rfl
      | succ i ih =>
        have := pv_phi1 (c := c) (k := k) (n := n) (s := s) (j := j) (x := Q - m + i) h0 (by omega)
        rw [show Q - m + (i + 1) = Q - m + i + 1 by omega, this, ih]; omega
    have := this m
    rw [show Q - m + m = Q by omega, hM] at this
    omega
  refine ⟨hm, hz, fun f hf => ⟨fun h => ?_, fun h => ?_⟩⟩
  · have := (pv_M_a (c := c) (k := k) (s := pn_up s j f) (n := n) (j := j) (Q - f)).2
    rw [pn_upe, pn_up_up, show f + (Q - f) = Q by omega, hM, h] at this
    omega
  · have := (pv_M_a (c := c) (k := k) (s := pn_up s j f) (n := n) (j := j) (Q - m - f)).1
    rw [pn_upe, pn_up_up, show f + (Q - m - f) = Q - m by omega, hz] at this
    omega
/-- the days of D are filled, the dearest first, each as much as can be -/
def pv_gr (c : Nat → Nat) (k : Nat) (q P : Nat → Nat) (n : Nat) (D : Nat → Bool) (s : Nat → Nat) : Prop :=
  (∀ t, D t = false → s t = 0) ∧ (∀ t, s t ≤ q t) ∧ pv_M c k s n = 0 ∧ (pn_sum s n + pv_M c k (pv_on D q) n = pn_sum (pv_on D q) n)
  ∧ (∀ w, 1 ≤ w → (∀ t, t < n → w ≤ P t → 0 < q t → D t = true) → pn_sum (pv_on (pv_w P w) s) n + pv_M c k (pv_on (pv_w P w) q) n = pn_sum (pv_on (pv_w P w) q) n)
  ∧ (∀ t t', D t = true → D t' = false → t' < n → 0 < q t' → 0 < P t' → P t' ≤ P t)
theorem pv_M_0 : pv_M c k (fun _ => 0) n = 0 := by
  have h := (pv_M_lip (c := c) (k := k) (s := fun _ => 0) (s' := fun _ => 0) (n := n) (fun _ _ => Nat.le_refl _))
  have key : ∀ r t g, g ≤ pn_sum c t → pv_N c k (fun _ => 0) r t g = 0 := by
    intro r
    induction r with
    | zero => intro t g _; rfl
    | succ r ih =>
      intro t g hg
      have h1 := pn_sum_m (f := c) (m := t - k) t (by omega)
      have h2 := pn_sum_m (f := c) (m := t) (t + 1) (by omega)
      rw [pv_N, ih (t + 1) _ (by omega)]
      omega
  exact key n 0 0 (Nat.zero_le _)
theorem pv_gr_0 : pv_gr c k q P n (fun _ => false) (fun _ => 0) := by
  refine ⟨fun _ _ => rfl, fun _ => Nat.zero_le _, pv_M_0, ?_, fun w hw h => ?_, fun t t' h => absurd h Bool.false_ne_true⟩
  · have : pv_on (fun _ => false) q = fun _ => 0 := by funext t; exact pv_on_f rfl
    rw [this, pv_M_0]; rfl
  · have e1 : pv_on (pv_w P w) (fun _ => 0) = fun _ => 0 := by funext t; unfold pv_on; split <;> rfl
    have e2 : ∀ t, t < n → pv_on (pv_w P w) q t = 0 := by
      intro t ht
      unfold pv_on pv_w
      by_cases c1 : w ≤ P t
      · by_cases c2 : 0 < q t
        · exact absurd (h t ht c1 c2) Bool.false_ne_true
        · rw [if_pos (by simp [c1])]; omega
      · rw [if_neg (by simp [c1])]
    rw [e1, pn_sum_0 n (fun _ _ => rfl), pn_sum_0 n e2, pv_M_c (y := fun _ => 0) e2, pv_M_0]
theorem pv_gr_step {D : Nat → Bool} {s : Nat → Nat} {j : Nat} (h : pv_gr c k q P n D s) (hj : j < n) (hD : D j = false) (hq : 0 < q j) (hP : 0 < P j) (hmax : ∀ t, t < n → D t = false → 0 < q t → 0 < P t → P t ≤ P j) :
    pv_gr c k q P n (fun t => decide (t = j) || D t) (pn_up s j (q j - pv_M c k (pn_up s j (q j)) n)) ∧ pn_sum (fun t => pn_up s j (q j - pv_M c k (pn_up s j (q j)) n) t * P t) n = pn_sum (fun t => s t * P t) n + (q j - pv_M c k (pn_up s j (q j)) n) * P j := by
  obtain ⟨h1, h2, h3, h4, h5, h6⟩ := h
  have hsj : s j = 0 := h1 j hD
  have hs0 : pn_up s j 0 = s := by rw [← hsj]; exact pn_up_id
  obtain ⟨hm, hz, -⟩ := pv_phi (c := c) (k := k) (n := n) (s := s) (j := j) (Q := q j) (by rw [hs0]; exact h3)
  have hDj : pv_on D q j = 0 := pv_on_f hD
  have hon : pv_on (fun t => decide (t = j) || D t) q = pn_up (pv_on D q) j (q j) := by
    funext t
    unfold pv_on pn_up
    by_cases c1 : t = j
    · rw [if_pos c1, if_pos (by simp [c1]), c1]
    · rw [if_neg c1]
      simp only [c1, decide_false, Bool.false_or]
  have hsle : ∀ t, s t ≤ pv_on D q t := by
    intro t
    by_cases c1 : D t = true
    · rw [pv_on_t c1]; exact h2 t
    · rw [h1 t (by simpa using c1)]; omega
  -- wanting of all of D and j
  have hMD : pv_M c k (pn_up (pv_on D q) j (q j)) n = pv_M c k (pv_on D q) n + pv_M c k (pn_up s j (q j)) n := by
    have a1 := pv_M_aa (c := c) (k := k) (s := s) (s' := pv_on D q) (n := n) (j := j) (q j) hsle
    rw [hsj, hDj, Nat.zero_add, h3] at a1
    have a2 := (pv_M_lip (c := c) (k := k) (s := pn_up s j (q j)) (s' := pn_up (pv_on D q) j (q j)) (n := n) (fun t _ => by
      unfold pn_up
      split
      · exact Nat.le_refl _
      · exact hsle t)).2
    have a3 := pn_sum_up (f := s) (i := j) (v := q j) n hj
    have a4 := pn_sum_up (f := pv_on D q) (i := j) (v := q j) n hj
    omega
  have hsum := pn_sum_up (f := s) (i := j) (v := q j - pv_M c k (pn_up s j (q j)) n) n hj
  have hsumD := pn_sum_up (f := pv_on D q) (i := j) (v := q j) n hj
  have hd : pn_sum (pn_up s j (q j - pv_M c k (pn_up s j (q j)) n)) n + pv_M c k (pv_on (fun t => decide (t = j) || D t) q) n = pn_sum (pv_on (fun t => decide (t = j) || D t) q) n := by
    rw [hon, hMD]; omega
  refine ⟨⟨fun t ht => ?_, fun t => ?_, hz, hd, fun w hw hcomp => ?_, fun t t' ht ht' hn' hq' hP' => ?_⟩, ?_⟩
  · have c1 : t ≠ j := by rintro rfl; simp at ht
    rw [pn_upn c1]
    refine h1 t ?_
    simpa [c1] using ht
  · by_cases c1 : t = j
    · rw [c1, pn_upe]; omega
    · rw [pn_upn c1]; exact h2 t
  · by_cases hbefore : ∀ t, t < n → w ≤ P t → 0 < q t → D t = true
    · have hnot : ¬ w ≤ P j := fun h => by have := hbefore j hj h hq; rw [hD] at this; exact absurd this (by decide)
      have e1 : pv_on (pv_w P w) (pn_up s j (q j - pv_M c k (pn_up s j (q j)) n)) = pv_on (pv_w P w) s := by
        funext t
        unfold pv_on pv_w
        by_cases c1 : w ≤ P t
        · have : t ≠ j := by rintro rfl; exact hnot c1
          rw [pn_upn this]
        · rw [if_neg (by simp [c1]), if_neg (by simp [c1])]
      rw [e1]
      exact h5 w hw hbefore
    · have hwj : w ≤ P j := by
        refine Classical.byContradiction (fun hn => hbefore (fun t ht hwt hqt => ?_))
        have := hcomp t ht hwt hqt
        have c1 : t ≠ j := by rintro rfl; exact hn hwt
        simpa [c1] using this
      have hin : ∀ t, t < n → (D t = true ∨ t = j) → w ≤ P t := by
        intro t ht h
        rcases h with h | h
        · have := h6 t j h hD hj hq hP; omega
        · rw [h]; exact hwj
      have e1 : ∀ t, t < n → pv_on (pv_w P w) q t = pv_on (fun t => decide (t = j) || D t) q t := by
        intro t ht
        by_cases c1 : D t = true ∨ t = j
        · have c2 := hin t ht c1
          rw [pv_on_t (D := pv_w P w) (by unfold pv_w; simp [c2]), pv_on_t (D := fun t => decide (t = j) || D t) (by rcases c1 with c1 | c1 <;> simp [c1])]
        · have c3 : D t = false := by
            have : ¬ D t = true := fun h => c1 (Or.inl h)
            simpa using this
          have c4 : ¬ t = j := fun h => c1 (Or.inr h)
          rw [pv_on_f (D := fun t => decide (t = j) || D t) (by simp [c3, c4])]
          unfold pv_on pv_w
          by_cases c5 : w ≤ P t
          · by_cases c6 : 0 < q t
            · have := hcomp t ht c5 c6
              simp [c3, c4] at this
            · rw [if_pos (by simp [c5])]; omega
          · rw [if_neg (by simp [c5])]
      have e2 : ∀ t, t < n → pv_on (pv_w P w) (pn_up s j (q j - pv_M c k (pn_up s j (q j)) n)) t = pn_up s j (q j - pv_M c k (pn_up s j (q j)) n) t := by
        intro t ht
        by_cases c1 : D t = true ∨ t = j
        · have c2 := hin t ht c1
          rw [pv_on_t (D := pv_w P w) (by unfold pv_w; simp [c2])]
        · have c3 : D t = false := by
            have : ¬ D t = true := fun h => c1 (Or.inl h)
            simpa using this
          have c4 : ¬ t = j := fun h => c1 (Or.inr h)
          rw [pn_upn c4, h1 t c3]
          unfold pv_on
          rw [pn_upn c4, h1 t c3]
          split <;> rfl
      rw [pn_sum_c n e2, pn_sum_c n e1, pv_M_c e1]
      exact hd
  · have c1 : t' ≠ j := by rintro rfl; simp at ht'
    have c2 : D t' = false := by simpa [c1] using ht'
    by_cases c3 : t = j
    · rw [c3]; exact hmax t' hn' c2 hq' hP'
    · exact h6 t t' (by simpa [c3] using ht) c2 hn' hq' hP'
  · have e1 : (fun t => pn_up s j (q j - pv_M c k (pn_up s j (q j)) n) t * P t) = pn_up (fun t => s t * P t) j ((q j - pv_M c k (pn_up s j (q j)) n) * P j) := by
      funext t
      unfold pn_up
      by_cases c1 : t = j
      · rw [if_pos c1, if_pos c1, c1]
      · rw [if_neg c1, if_neg c1]
    have e2 := pn_sum_up (f := fun t => s t * P t) (i := j) (v := (q j - pv_M c k (pn_up s j (q j)) n) * P j) n hj
    rw [hsj, Nat.zero_mul] at e2
    rw [e1]; omega
/-- a sum of prices by steps of one -/
theorem pn_sum_mul {s : Nat → Nat} (m : Nat) : ∀ n, (∀ t, t < n → P t ≤ m) → pn_sum (fun t => s t * P t) n = pn_sum (fun w => pn_sum (pv_on (pv_w P (w + 1)) s) n) m
  | 0, _ => (pn_sum_0 m (fun _ _ => rfl)).symm
  | n + 1, h => by
    have e1 : ∀ x p : Nat, ∀ m', p ≤ m' → pn_sum (fun w => if w + 1 ≤ p then x else 0) m' = x * p := by
      intro x p m' hp
      rw [pn_sum_x m' hp (fun w h1 h2 => if_neg (by omega)), pn_sum_c (g := fun _ => x) p (fun w hw => if_pos (by omega))]
      clear hp
      induction p with
      | zero => rfl
      | succ p ih => rw [pn_sum, ih, Nat.mul_succ]
    have e2 : ∀ w, pn_sum (pv_on (pv_w P (w + 1)) s) (n + 1) = pn_sum (pv_on (pv_w P (w + 1)) s) n + if w + 1 ≤ P n then s n else 0 := by
      intro w
      rw [pn_sum]
      refine congrArg (pn_sum (pv_on (pv_w P (w + 1)) s) n + ·) ?_
      unfold pv_on pv_w
      by_cases c1 : w + 1 ≤ P n
      · rw [if_pos c1, if_pos (by simp [c1])]
      · rw [if_neg c1, if_neg (by simp [c1])]
    rw [pn_sum, pn_sum_mul m n (fun t ht => h t (by omega)), pn_sum_c (g := fun w => pn_sum (pv_on (pv_w P (w + 1)) s) n + if w + 1 ≤ P n then s n else 0) m (fun w _ => e2 w), pn_sum_add, e1 (s n) (P n) m (h n (by omega))]
theorem pv_gr_end {D : Nat → Bool} {s : Nat → Nat} (h : pv_gr c k q P n D s) (hP : ∀ t, t < n → P t ≤ 99) (hall : ∀ t, t < n → 0 < q t → 0 < P t → D t = true) : pn_sum (fun t => s t * P t) n = pv_V c k q P n := by
  rw [pn_sum_mul 99 n hP]
  refine pn_sum_c 99 (fun w _ => ?_)
  have := h.2.2.2.2.1 (w + 1) (by omega) (fun t ht hw hq => hall t ht hq (by omega))
  unfold pv_R
  omega
end
