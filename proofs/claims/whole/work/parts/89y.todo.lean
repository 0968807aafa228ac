/-! Wanting still -/
section
variable {d : ya_D} {M : pm_M} {G : ya_G}
theorem pg_market (h : pg_I G d) : pg_2 G d f_X11_market f_X12_market := by
  sorry
end
