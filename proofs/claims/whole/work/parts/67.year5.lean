/-! The year: a trade, a day's beginning -/
section
variable {d e : ya_D} {M M' : pm_M} {a : Nat}
/-- what is told of a thing on a day -/
def yr_C (M : pm_M) (a : Nat) (K : Nat → Nat → Prop) (d e : ya_D) : Prop := ∀ x t, x < M 0 3 → t < M 0 1 → K x t → d.1 (a + 1) (20 * x + t) = e.1 91 (20 * x + t) ∧ (d.1 (a + 2) (20 * x + t) = nI (pm_wd M x t (M 2 (20 * x + t)) (M 0 5)) ∧ e.1 92 (20 * x + t) = nI (pm_wd M x t (M 2 (20 * x + t)) (M 0 5))) ∧ d.1 (a + 3) (20 * x + t) = e.1 93 (20 * x + t)
/-- what each buyer spends and gets; lots; x -/
def yr_P (M : pm_M) (a : Nat) (p : Nat → Nat) (d e : ya_D) : Prop := (∀ b, b < M 0 5 → d.1 (a + 12) b = e.1 98 b) ∧ (∀ b, b < M 0 5 → d.1 (a + 13) b = nI (p b) ∧ e.1 99 b = nI (p b)) ∧ d.1 a 15 = e.1 83 27 ∧ d.2 a 16 = e.2 83 28 ∧ ∃ X, X < 2 ^ 31 ∧ d.2 a 16 = lN X
/-- the cells that the class's year changes, and those of the reference's -/
def yr_f1 (a : Nat) (d d' : ya_D) : Prop := (∀ a', a' < a ∨ a + 15 ≤ a' → d'.1 a' = d.1 a') ∧ (∀ q, q ≠ 14 → q ≠ 15 → d'.1 a q = d.1 a q) ∧ (∀ a' k, a' ≠ a ∨ k ≠ 16 → d'.2 a' k = d.2 a' k)
def yr_f2 (e e' : ya_D) : Prop := (∀ a', a' ≠ 83 → (a' < 90 ∨ 101 < a') → e'.1 a' = e.1 a') ∧ (∀ q, q ≠ 27 → e'.1 83 q = e.1 83 q) ∧ (∀ a' k, a' ≠ 83 ∨ k ≠ 28 → e'.2 a' k = e.2 a' k)
theorem yr_f1_t {d1 d2 d3 : ya_D} (h : yr_f1 a d1 d2) (h' : yr_f1 a d2 d3) : yr_f1 a d1 d3 := ⟨fun a' q => (h'.1 a' q).trans (h.1 a' q), fun q q1 q2 => (h'.2.1 q q1 q2).trans (h.2.1 q q1 q2), fun a' k q => (h'.2.2 a' k q).trans (h.2.2 a' k q)⟩
theorem yr_f2_t {d1 d2 d3 : ya_D} (h : yr_f2 d1 d2) (h' : yr_f2 d2 d3) : yr_f2 d1 d3 := ⟨fun a' q q' => (h'.1 a' q q').trans (h.1 a' q q'), fun q q1 => (h'.2.1 q q1).trans (h.2.1 q q1), fun a' k q => (h'.2.2 a' k q).trans (h.2.2 a' k q)⟩
theorem yr_f1_C (ha : 42 ≤ a) {d' : ya_D} (h : yr_f1 a d d') (hC : pm_C d 24 M) : pm_C d' 24 M := pm_C_c hC (fun a' k h1 h2 => by rw [h.1 a' (by omega)])
theorem yr_f2_s {e' : ya_D} (h : yr_f2 e e') (hs : ys e M M') : ys e' M M' := ys_c hs (h.1 84 (by decide) (by decide))
/-- the end of a trade: sold -/
theorem yr_trade (hC : pm_C d 24 M) (h : ys e M M') {x t : Nat} {T : Nat → Nat} {l g : Nat → Nat → Nat} {p : Nat → Nat} {K : Nat → Nat → Prop} (ha : 42 ≤ a) (hx : x < M 0 3) (ht : t < M 0 1) (hL : yr_L M a (fun _ => t + 1) l d e) (hG : yr_G M a T g d e) (hT : ∀ s, M 5 s = x → T s ≤ t) (hS : ∀ s, s < M 0 4 → d.1 (a + 10) s = e.1 96 s) (hP : yr_P M a p d e) (hK : yr_C M a K d e) :
    ∃ (d' e' : ya_D) (l' g' : Nat → Nat → Nat) (p' : Nat → Nat), yr_L M a (fun _ => t + 1) l' d' e' ∧ yr_G M a (fun s => if M 5 s = x then t + 1 else T s) g' d' e' ∧ (∀ s, s < M 0 4 → d'.1 (a + 10) s = e'.1 96 s) ∧ yr_P M a p' d' e' ∧ yr_C M a (fun x' t' => (x' = x ∧ t' = t) ∨ K x' t') d' e' ∧ (∀ b, b < M 0 5 → p' b ≤ p b + if pm_co M x t (M 2 (20 * x + t)) b then M 10 b else 0) ∧ yr_f1 a d d' ∧ yr_f2 e e' ∧ d'.1 (a + 4) = d.1 (a + 4) ∧ d'.1 (a + 6) = d.1 (a + 6) ∧ d'.1 (a + 11) = d.1 (a + 11) ∧ e'.1 95 = e.1 95 ∧ e'.1 97 = e.1 97 ∧ e'.1 100 = e.1 100 ∧ f_X10_trade a 24 (nI x) (nI t) d = some d' ∧ f_X12_sellsOn (nI x) (nI t) e = some e' := by
  obtain ⟨⟨b0, b1, b2, b3, b4, b5⟩, -, w2, w3, -, w5⟩ := pk_w h.2.1
  have hp := w2 x t hx ht
  have hwd := pm_wd_le h.2.1 (x := x) (t := t) (y := M 2 (20 * x + t)) (n := M 0 5) (Nat.le_refl _)
  obtain ⟨L1, L2, L3, L4, L5, L6⟩ := hL
  obtain ⟨P1, P2, P3, P4, P5⟩ := hP
  -- offered
  have hn : pn_sum (fun s => if pm_of_ M x t s then pn_sum (l s) (M 0 1) else 0) (M 0 4) ≤ 198 * 20 * 5 := by
    have q1 := pn_sum_le (f := fun s => if pm_of_ M x t s then pn_sum (l s) (M 0 1) else 0) (K := 198 * 20) (M 0 4) (fun s _ => by
      have := pn_sum_le (f := l s) (K := 198) (M 0 1) (fun c _ => L4 s c)
      split
      · omega
      · omega)
    omega
  have sup1 := yr_supply hC h.2.1 hx ht L3
  have sup2 := ys_there h hx ht L2
  generalize hN : pn_sum (fun s => if pm_of_ M x t s then pn_sum (l s) (M 0 1) else 0) (M 0 4) = N at hn sup1 sup2
  generalize hA : pm_wd M x t (M 2 (20 * x + t)) (M 0 5) = A at hwd
  -- the class writes what is offered, asked, sold
  let d1 := ya_sI (ya_sI (ya_sI d (a + 1) (20 * x + t) (nI N)) (a + 2) (20 * x + t) (nI A)) (a + 3) (20 * x + t) (nI (min N A))
  let e1 := ya_sI (ya_sI e 91 (20 * x + t) (nI N)) 92 (20 * x + t) (nI A)
  have fd1 : ∀ a', a' ≠ a + 1 → a' ≠ a + 2 → a' ≠ a + 3 → d1.1 a' = d.1 a' := fun a' h1 h2 h3 => (rw_n h3).trans ((rw_n h2).trans (rw_n h1))
  have fe1 : ∀ a', a' ≠ 91 → a' ≠ 92 → e1.1 a' = e.1 a' := fun a' h1 h2 => (rw_n h2).trans (rw_n h1)
  have hC1 : pm_C d1 24 M := pm_C_c hC (fun a' k h1 h2 => by rw [fd1 a' (by omega) (by omega) (by omega)])
  sorry
end
