/-! After mark the known year stays known -/
section
variable {d d' e : ya_D} {M M' : pm_M} {G G' : ya_G}
theorem pg_M4 (h : ∀ g j, g ≠ 4 → M' g j = M g j) : M' = fun g => if g = 4 then M' 4 else M g := by
  funext g j
  by_cases c : g = 4
  · rw [if_pos c, c]
  · rw [if_neg c]; exact h g j c
theorem pg_yrD4 {a t : Nat} {l g : Nat → Nat → Nat} {p : Nat → Nat} (N : Nat → Nat) (h : yr_D M a t l g p d e) : yr_D (fun g => if g = 4 then N else M g) a t l g p d e := h
theorem pg_Kn4 (hW : pm_W M) (h4 : ∀ g j, g ≠ 4 → M' g j = M g j) (h : yr_Kn d M) : yr_Kn d M' := by
  intro e M2 he
  obtain ⟨h1, h2, h3, h5, h6, h7⟩ := he
  have x : ∀ g, g ≠ 4 → M' g = M g := fun g hg => funext fun j => h4 g j hg
  obtain ⟨e', k1, k2, l, g, p, k3⟩ := h e M2 ⟨h1, hW, h3, fun g j a b c => (h5 g j a b c).trans (h4 g j a), by
    rw [x 0 (by decide), x 2 (by decide), x 5 (by decide), x 7 (by decide)] at h6; exact h6, by
    rw [x 0 (by decide), x 2 (by decide), x 9 (by decide), x 11 (by decide), x 12 (by decide), x 13 (by decide)] at h7; exact h7⟩
  refine ⟨e', k1, k2, l, g, p, ?_⟩
  rw [pg_M4 h4]
  exact pg_yrD4 (M' 4) k3
end
