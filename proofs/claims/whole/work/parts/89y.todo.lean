/-! Wanting still -/
section
variable {d : ya_D} {M : pm_M} {G : ya_G}
theorem pz_chance (hI : pm_I d M) (hY : pz_Y d M) (v w u : Int32) : pz_op d M (f_X11_chance v w u) (f_X12_chance v w u) := by
  sorry
theorem pg_market (h : pg_I G d) : pg_2 G d f_X11_market f_X12_market := by
  sorry
end
