/-! The value of all: what changes it -/
section
variable {c q P : Nat → Nat} {k n : Nat}
theorem pv_N_cc {c' : Nat → Nat} {s : Nat → Nat} : ∀ r t g, (∀ i, i < t + r → c i = c' i) → pv_N c k s r t g = pv_N c' k s r t g
  | 0, _, _, _ => rfl
  | r + 1, t, g, h => by
    rw [pv_N, pv_N, pn_sum_c (f := c) (g := c') (t - k) (fun i hi => h i (by omega)), pn_sum_c (f := c) (g := c') (t + 1) (fun i hi => h i (by omega)), pv_N_cc r (t + 1) _ (fun i hi => h i (by omega))]
theorem pv_on_c {D : Nat → Bool} {x y : Nat → Nat} {t : Nat} (h : x t = y t) : pv_on D x t = pv_on D y t := by
  unfold pv_on; rw [h]
theorem pv_V_c {c' q' P' : Nat → Nat} (hc : ∀ t, t < n → c t = c' t) (hq : ∀ t, t < n → q t = q' t) (hP : ∀ t, t < n → P t = P' t) : pv_V c k q P n = pv_V c' k q' P' n := by
  refine pn_sum_c 99 (fun w _ => ?_)
  have e : ∀ t, t < n → pv_on (pv_w P (w + 1)) q t = pv_on (pv_w P' (w + 1)) q' t := by
    intro t ht
    unfold pv_on pv_w
    rw [hq t ht, hP t ht]
  unfold pv_R
  rw [pn_sum_c n e, pv_M_c e]
  unfold pv_M
  rw [pv_N_cc n 0 0 (fun i hi => hc i (by omega))]
theorem pv_M_le {s : Nat → Nat} : pv_M c k s n ≤ pn_sum s n := by
  have := (pv_M_lip (c := c) (k := k) (s := fun _ => 0) (s' := s) (n := n) (fun _ _ => Nat.zero_le _)).2
  rw [pv_M_0, pn_sum_0 n (fun _ _ => rfl)] at this
  omega
theorem pv_V_k {k' : Nat} (hk : k ≤ k') : pv_V c k q P n ≤ pv_V c k' q P n := by
  refine pn_sum_mm 99 (fun w _ => ?_)
  have h := pv_N_k (c := c) (s := pv_on (pv_w P (w + 1)) q) hk n 0 0 0 (Nat.le_refl _)
  unfold pv_R pv_M
  omega
theorem pv_V_le : pv_V c k q P n ≤ pn_sum q n * 99 := by
  refine pn_sum_le 99 (fun w _ => ?_)
  have : pn_sum (pv_on (pv_w P (w + 1)) q) n ≤ pn_sum q n := pn_sum_mm n (fun t _ => by unfold pv_on; split <;> omega)
  unfold pv_R
  omega
/-- at day j: what is asked there x, its price p -/
theorem pv_on_j {w j x p : Nat} : pv_on (pv_w (pn_up P j p) w) (pn_up q j x) = if w ≤ p then pn_up (pv_on (pv_w P w) (pn_up q j 0)) j x else pv_on (pv_w P w) (pn_up q j 0) := by
  funext t
  by_cases c1 : t = j
  · subst c1
    by_cases c2 : w ≤ p
    · rw [if_pos c2, pn_upe, pv_on_t (by unfold pv_w; rw [pn_upe]; simp [c2]), pn_upe]
    · rw [if_neg c2, pv_on_f (by unfold pv_w; rw [pn_upe]; simp [c2])]
      unfold pv_on
      rw [pn_upe]
      split <;> rfl
  · have e : pv_on (pv_w (pn_up P j p) w) (pn_up q j x) t = pv_on (pv_w P w) (pn_up q j 0) t := by
      unfold pv_on pv_w
      rw [pn_upn c1, pn_upn c1, pn_upn c1]
    rw [e]
    split
    · rw [pn_upn c1]
    · rfl
theorem pv_on_j0 {w j : Nat} : pv_on (pv_w P w) (pn_up q j 0) j = 0 := by
  unfold pv_on
  rw [pn_upe]
  split <;> rfl
/-- without day j it is no more -/
theorem pv_V_without {j x p p' : Nat} (hj : j < n) : pv_V c k (pn_up q j 0) (pn_up P j p') n ≤ pv_V c k (pn_up q j x) (pn_up P j p) n := by
  refine pn_sum_mm 99 (fun w _ => ?_)
  unfold pv_R
  rw [pv_on_j, pv_on_j]
  have e0 : pn_up (pv_on (pv_w P (w + 1)) (pn_up q j 0)) j 0 = pv_on (pv_w P (w + 1)) (pn_up q j 0) := by
    have := pn_up_id (f := pv_on (pv_w P (w + 1)) (pn_up q j 0)) (j := j)
    rw [pv_on_j0] at this
    exact this
  rw [e0]
  have e1 : (if w + 1 ≤ p' then pv_on (pv_w P (w + 1)) (pn_up q j 0) else pv_on (pv_w P (w + 1)) (pn_up q j 0)) = pv_on (pv_w P (w + 1)) (pn_up q j 0) := by split <;> rfl
  rw [e1]
  split
  · have h1 := (pv_M_a (c := c) (k := k) (s := pv_on (pv_w P (w + 1)) (pn_up q j 0)) (n := n) (j := j) x).2
    have h2 := pn_sum_up (f := pv_on (pv_w P (w + 1)) (pn_up q j 0)) (i := j) (v := x) n hj
    rw [pv_on_j0] at h1 h2
    rw [Nat.zero_add] at h1
    omega
  · exact Nat.le_refl _
/-- where a day's price brings more than to leave it out, one more of it brings still more -/
theorem pv_V_more {j x p p' : Nat} (hj : j < n) (hp : p < 99) (h : pv_V c k (pn_up q j 0) (pn_up P j p') n < pv_V c k (pn_up q j x) (pn_up P j p) n) : pv_V c k (pn_up q j x) (pn_up P j p) n < pv_V c k (pn_up q j x) (pn_up P j (p + 1)) n := by
  let E : Nat → Nat → Nat := fun w => pv_on (pv_w P (w + 1)) (pn_up q j 0)
  have hEj : ∀ w, E w j = 0 := fun w => pv_on_j0
  let R0 : Nat → Nat := fun w => pn_sum (E w) n - pv_M c k (E w) n
  let Rj : Nat → Nat := fun w => pn_sum (pn_up (E w) j x) n - pv_M c k (pn_up (E w) j x) n
  have hR : ∀ p, pv_V c k (pn_up q j x) (pn_up P j p) n = pn_sum (fun w => if w + 1 ≤ p then Rj w else R0 w) 99 := by
    intro p
    refine pn_sum_c 99 (fun w _ => ?_)
    unfold pv_R
    rw [pv_on_j]
    by_cases c1 : w + 1 ≤ p
    · rw [if_pos c1, if_pos c1]
    · rw [if_neg c1, if_neg c1]
  have hR0 : pv_V c k (pn_up q j 0) (pn_up P j p') n = pn_sum R0 99 := by
    refine pn_sum_c 99 (fun w _ => ?_)
    unfold pv_R
    rw [pv_on_j]
    have e0 : pn_up (E w) j 0 = E w := by
      have := pn_up_id (f := E w) (j := j)
      rw [hEj w] at this
      exact this
    have e1 : (if w + 1 ≤ p' then pn_up (pv_on (pv_w P (w + 1)) (pn_up q j 0)) j 0 else pv_on (pv_w P (w + 1)) (pn_up q j 0)) = E w := by
      split
      · exact e0
      · rfl
    rw [e1]
  have hsum : ∀ w, pn_sum (pn_up (E w) j x) n = pn_sum (E w) n + x := by
    intro w
    have := pn_sum_up (f := E w) (i := j) (v := x) n hj
    rw [hEj w] at this
    omega
  have hM1 : ∀ w, pv_M c k (pn_up (E w) j x) n ≤ pv_M c k (E w) n + x := by
    intro w
    have := (pv_M_a (c := c) (k := k) (s := E w) (n := n) (j := j) x).2
    rw [hEj w, Nat.zero_add] at this
    exact this
  have hge : ∀ w, R0 w ≤ Rj w := by
    intro w
    have h1 := hsum w
    have h2 := hM1 w
    have h3 := pv_M_le (c := c) (k := k) (s := E w) (n := n)
    show pn_sum (E w) n - pv_M c k (E w) n ≤ pn_sum (pn_up (E w) j x) n - pv_M c k (pn_up (E w) j x) n
    omega
  have hmono : ∀ w, w ≤ p → Rj p = R0 p → Rj w = R0 w := by
    intro w hw he
    have h1 := hsum w
    have h1' := hsum p
    have h3 := pv_M_le (c := c) (k := k) (s := E w) (n := n)
    have h3' := pv_M_le (c := c) (k := k) (s := E p) (n := n)
    have h4 := pv_M_aa (c := c) (k := k) (s := E p) (s' := E w) (n := n) (j := j) x (fun t => by
      show pv_on _ _ t ≤ pv_on _ _ t
      unfold pv_on pv_w
      by_cases c1 : p + 1 ≤ P t
      · rw [if_pos (by simp [c1]), if_pos (by simp; omega)]; exact Nat.le_refl _
      · rw [if_neg (by simp [c1])]; exact Nat.zero_le _)
    rw [hEj w, hEj p, Nat.zero_add] at h4
    have h5 := hM1 w
    have h5' := hM1 p
    have h6 := pv_M_le (c := c) (k := k) (s := pn_up (E w) j x) (n := n)
    have h6' := pv_M_le (c := c) (k := k) (s := pn_up (E p) j x) (n := n)
    have he' : pn_sum (pn_up (E p) j x) n - pv_M c k (pn_up (E p) j x) n = pn_sum (E p) n - pv_M c k (E p) n := he
    show pn_sum (pn_up (E w) j x) n - pv_M c k (pn_up (E w) j x) n = pn_sum (E w) n - pv_M c k (E w) n
    omega
  rw [hR, hR0] at h
  rw [hR, hR]
  have hdiff : pn_sum (fun w => if w + 1 ≤ p + 1 then Rj w else R0 w) 99 = pn_sum (pn_up (fun w => if w + 1 ≤ p then Rj w else R0 w) p (Rj p)) 99 := by
    refine pn_sum_c 99 (fun w _ => ?_)
    unfold pn_up
    by_cases c1 : w = p
    · rw [if_pos c1, if_pos (by omega), c1]
    · rw [if_neg c1]
      show (if w + 1 ≤ p + 1 then Rj w else R0 w) = (if w + 1 ≤ p then Rj w else R0 w)
      by_cases c2 : w + 1 ≤ p
      · rw [if_pos c2, if_pos (by omega)]
      · rw [if_neg c2, if_neg (by omega)]
  have hup := pn_sum_up (f := fun w => if w + 1 ≤ p then Rj w else R0 w) (i := p) (v := Rj p) 99 hp
  rw [if_neg (show ¬ p + 1 ≤ p by omega)] at hup
  rw [hdiff]
  by_cases c1 : Rj p = R0 p
  · have : pn_sum (fun w => if w + 1 ≤ p then Rj w else R0 w) 99 = pn_sum R0 99 := pn_sum_c 99 (fun w _ => by
      by_cases c2 : w + 1 ≤ p
      · rw [if_pos c2]; exact hmono w (by omega) c1
      · rw [if_neg c2])
    omega
  · have := hge p
    omega
end
