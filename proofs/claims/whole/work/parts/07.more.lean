/-! CALLS of methods that make nothing; weaker locals; ends of conditions; Math; rows copied -/
def ya_z0 (Yc : ya_Y) : Prop := Yc.2.2.2.2.2.cells = 0 ∧ Yc.2.2.2.2.2.slots = 0
/-- a world's known part: shapes and links of a block of cells, from a on -/
def ya_Bk (shs : List (Nat × Nat)) (lks : List (Nat × Nat × Nat)) (G : ya_G) (a : Nat) : Prop := a + shs.length ≤ G.1 ∧ (∀ (i : Nat) (z : Nat × Nat), shs[i]? = some z → G.2.1 (a + i) = z) ∧ ∀ (j : Nat) (e : Nat × Nat × Nat), lks[j]? = some e → G.2.2 (a + e.1) e.2.1 = some (a + e.2.2)
theorem ya_Bk.lt {shs : List (Nat × Nat)} {lks : List (Nat × Nat × Nat)} {G : ya_G} {a : Nat} (h : ya_Bk shs lks G a) (i : Nat) (hi : i < shs.length) : a + i < G.1 := Nat.lt_of_lt_of_le (Nat.add_lt_add_left hi a) h.1
theorem ya_Bk.s {shs : List (Nat × Nat)} {lks : List (Nat × Nat × Nat)} {G : ya_G} {a : Nat} (h : ya_Bk shs lks G a) (i : Nat) {z : Nat × Nat} (hz : shs[i]? = some z) : G.2.1 (a + i) = z := h.2.1 i z hz
theorem ya_Bk.o {shs : List (Nat × Nat)} {lks : List (Nat × Nat × Nat)} {G : ya_G} {a : Nat} (h : ya_Bk shs lks G a) (i : Nat) {c n : Nat} (hz : shs[i]? = some (c, n)) : (G.2.1 (a + i)).1 = c := by rw [h.2.1 i _ hz]
theorem ya_Bk.l {shs : List (Nat × Nat)} {lks : List (Nat × Nat × Nat)} {G : ya_G} {a : Nat} (h : ya_Bk shs lks G a) (j : Nat) {i f q : Nat} (hj : lks[j]? = some (i, f, q)) : G.2.2 (a + i) f = some (a + q) := h.2.2 j _ hj
theorem ya_Bk.sub {shs shs' : List (Nat × Nat)} {lks lks' : List (Nat × Nat × Nat)} {G : ya_G} {a : Nat} (h : ya_Bk shs lks G a) (off : Nat) (h1 : (shs.drop off).take shs'.length = shs') (h2 : lks'.all (fun e => lks.contains (off + e.1, e.2.1, off + e.2.2)) = true) (h3 : off + shs'.length ≤ shs.length) : ya_Bk shs' lks' G (a + off) := by
  refine ⟨by have := h.1; omega, fun i z hz => ?_, fun j e he => ?_⟩
  · have hi : i < shs'.length := (List.getElem?_eq_some_iff.mp hz).1
    rw [Nat.add_assoc]
    refine h.2.1 _ _ ?_
    rw [← h1, List.getElem?_take_of_lt hi, List.getElem?_drop] at hz
    exact hz
  · have hm := List.all_eq_true.mp h2 e (List.mem_of_getElem? he)
    have hm2 : (off + e.1, e.2.1, off + e.2.2) ∈ lks := by simpa using hm
    obtain ⟨j', hj'⟩ := List.getElem?_of_mem hm2
    have := h.2.2 j' _ hj'
    rw [Nat.add_assoc, Nat.add_assoc]
    exact this
/-- shapes and links from 0 on: the same -/
theorem ya_Bk.at0 {shs shs' : List (Nat × Nat)} {lks lks' : List (Nat × Nat × Nat)} {G : ya_G} (h : ya_Bk shs lks G 0) (off : Nat) (h1 : (shs.drop off).take shs'.length = shs') (h2 : lks'.all (fun e => lks.contains (off + e.1, e.2.1, off + e.2.2)) = true) (h3 : off + shs'.length ≤ shs.length) : ya_Bk shs' lks' G off := by
  have := h.sub off h1 h2 h3
  rwa [Nat.zero_add] at this
theorem ya_Bk.lt0 {shs : List (Nat × Nat)} {lks : List (Nat × Nat × Nat)} {G : ya_G} (h : ya_Bk shs lks G 0) (i : Nat) (hi : i < shs.length) : i < G.1 := by
  have := h.lt i hi
  rwa [Nat.zero_add] at this
theorem ya_Bk.s0 {shs : List (Nat × Nat)} {lks : List (Nat × Nat × Nat)} {G : ya_G} (h : ya_Bk shs lks G 0) (i : Nat) {z : Nat × Nat} (hz : shs[i]? = some z) : G.2.1 i = z := by
  have := h.s i hz
  rwa [Nat.zero_add] at this
theorem ya_Bk.o0 {shs : List (Nat × Nat)} {lks : List (Nat × Nat × Nat)} {G : ya_G} (h : ya_Bk shs lks G 0) (i : Nat) {c n : Nat} (hz : shs[i]? = some (c, n)) : (G.2.1 i).1 = c := by rw [h.s0 i hz]
theorem ya_Bk.l0 {shs : List (Nat × Nat)} {lks : List (Nat × Nat × Nat)} {G : ya_G} (h : ya_Bk shs lks G 0) (j : Nat) {i f q : Nat} (hj : lks[j]? = some (i, f, q)) : G.2.2 i f = some q := by
  have := h.l j hj
  rwa [Nat.zero_add, Nat.zero_add] at this
section
variable {X : ya_X} {Y : ya_Y} {Γ : ya_Γ} {pc : Nat} {L : List (Nat × Value)} {S : List Value} {G : ya_G} {d : ya_D} {k n : Nat}
theorem ya_sub (L1 : List (Nat × Value)) (ks : List Nat) (hL : lv_pick L ks = L1) (kk : ya_E X Y Γ pc L1 S G d k n) : ya_E X Y Γ pc L S G d k n := fun p e s m args below meth c H locs ls hC hH hl => kk p e s m args below meth c H locs ls hC hH (lv_sub hl ks hL)
theorem ya_fail {α : Type} {r : α} {P : Prop} (h : (none : Option α) = some r) : P := by cases h
theorem ya_ite {c : Prop} [Decidable c] {α : Type} {a b : Option α} {r : α} (h : (if c then a else b) = some r) : (c ∧ a = some r) ∨ (¬ c ∧ b = some r) := by
  by_cases hc : c
  · exact Or.inl ⟨hc, by rwa [if_pos hc] at h⟩
  · exact Or.inr ⟨hc, by rwa [if_neg hc] at h⟩
theorem ya_itet {c : Prop} [Decidable c] {α : Type} {a b : Option α} {r : α} (h : (if c then a else b) = some r) (hc : c) : a = some r := by rwa [if_pos hc] at h
theorem ya_itef {c : Prop} [Decidable c] {α : Type} {a b : Option α} {r : α} (h : (if c then a else b) = some r) (hc : ¬ c) : b = some r := by rwa [if_neg hc] at h

theorem ya_callVi {y : MethodName} {Yc : ya_Y} {i np : Nat} {As S0 : List Value} {d' : ya_D} {a ci : Nat} {q : vw_C} {x : Int32} (hct : ya_Ct X y Yc (.ref (X.2.1 + a) :: As) G d (some (.int x), G, d')) (hm : ya_mV y Yc np) (hz : ya_z0 Yc) (hlk : Cond.methodLink Y.2.1 i y ∈ lw_g) (hn : As.length = np) (hfit : ya_fit Y Yc) (hcat : (S.map fun v => v.category).sum ≤ 8) (ha : a < G.1) (hs : (G.2.1 a).1 = ci) (hci : ci < 20) (hcl : ya_cl[ci]? = some q) (hq : q.1 = y.cls) (hkn : k ≤ Y.2.2.2.2.2.cells ∧ n ≤ Y.2.2.2.2.2.slots) (hd : decode Y.1 pc = .ok (.invokevirtual i, 3)) (hst : S0 = As.reverse ++ .ref (X.2.1 + a) :: S)
    (kk : ya_E X Y Γ (pc + 3) L (.int x :: S) G d' k n) : ya_E X Y Γ pc L S0 G d k n := by
  refine ya_callV hct hm hlk hn hfit hcat (by rw [hz.1, hz.2]; exact hkn) (by rw [hz.1]; rfl) ha hs hci hcl hq hd hst ?_
  rw [hz.1, hz.2]
  exact kk
theorem ya_callSi {y : MethodName} {Yc : ya_Y} {i np : Nat} {As S0 : List Value} {d' : ya_D} {x : Int32} (hct : ya_Ct X y Yc As G d (some (.int x), G, d')) (hm : ya_mS y Yc np) (hz : ya_z0 Yc) (hlk : Cond.methodLink Y.2.1 i y ∈ lw_g) (hn : As.length = np) (hfit : ya_fit Y Yc) (hcat : (S.map fun v => v.category).sum ≤ 8) (hkn : k ≤ Y.2.2.2.2.2.cells ∧ n ≤ Y.2.2.2.2.2.slots) (hd : decode Y.1 pc = .ok (.invokestatic i, 3)) (hst : S0 = As.reverse ++ S)
    (kk : ya_E X Y Γ (pc + 3) L (.int x :: S) G d' k n) : ya_E X Y Γ pc L S0 G d k n := by
  refine ya_callS hct hm hlk hn hfit hcat (by rw [hz.1, hz.2]; exact hkn) (by rw [hz.1]; rfl) hd hst ?_
  rw [hz.1, hz.2]
  exact kk
theorem ya_callSNi {y : MethodName} {Yc : ya_Y} {i np : Nat} {As S0 : List Value} {d' : ya_D} {x : Int32} (hct : ya_Ct X y Yc As G d (some (.int x), G, d')) (hm : ya_mS y Yc np) (hz : ya_z0 Yc) {host : String} (j : Nat) (hj : ya_nest[j]? = some (Y.2.1, i, y, host)) (hn : As.length = np) (hfit : ya_fit Y Yc) (hcat : (S.map fun v => v.category).sum ≤ 8) (hkn : k ≤ Y.2.2.2.2.2.cells ∧ n ≤ Y.2.2.2.2.2.slots) (hd : decode Y.1 pc = .ok (.invokestatic i, 3)) (hst : S0 = As.reverse ++ S)
    (kk : ya_E X Y Γ (pc + 3) L (.int x :: S) G d' k n) : ya_E X Y Γ pc L S0 G d k n := by
  refine ya_callSN hct hm j hj hn hfit hcat (by rw [hz.1, hz.2]; exact hkn) (by rw [hz.1]; rfl) hd hst ?_
  rw [hz.1, hz.2]
  exact kk
theorem ya_callVl {y : MethodName} {Yc : ya_Y} {i np : Nat} {As S0 : List Value} {d' : ya_D} {a ci : Nat} {q : vw_C} {x : Int64} (hct : ya_Ct X y Yc (.ref (X.2.1 + a) :: As) G d (some (.long x), G, d')) (hm : ya_mV y Yc np) (hz : ya_z0 Yc) (hlk : Cond.methodLink Y.2.1 i y ∈ lw_g) (hn : As.length = np) (hfit : ya_fit Y Yc) (hcat : (S.map fun v => v.category).sum ≤ 8) (ha : a < G.1) (hs : (G.2.1 a).1 = ci) (hci : ci < 20) (hcl : ya_cl[ci]? = some q) (hq : q.1 = y.cls) (hkn : k ≤ Y.2.2.2.2.2.cells ∧ n ≤ Y.2.2.2.2.2.slots) (hd : decode Y.1 pc = .ok (.invokevirtual i, 3)) (hst : S0 = As.reverse ++ .ref (X.2.1 + a) :: S)
    (kk : ya_E X Y Γ (pc + 3) L (.long x :: S) G d' k n) : ya_E X Y Γ pc L S0 G d k n := by
  refine ya_callV hct hm hlk hn hfit hcat (by rw [hz.1, hz.2]; exact hkn) (by rw [hz.1]; rfl) ha hs hci hcl hq hd hst ?_
  rw [hz.1, hz.2]
  exact kk
theorem ya_callSl {y : MethodName} {Yc : ya_Y} {i np : Nat} {As S0 : List Value} {d' : ya_D} {x : Int64} (hct : ya_Ct X y Yc As G d (some (.long x), G, d')) (hm : ya_mS y Yc np) (hz : ya_z0 Yc) (hlk : Cond.methodLink Y.2.1 i y ∈ lw_g) (hn : As.length = np) (hfit : ya_fit Y Yc) (hcat : (S.map fun v => v.category).sum ≤ 8) (hkn : k ≤ Y.2.2.2.2.2.cells ∧ n ≤ Y.2.2.2.2.2.slots) (hd : decode Y.1 pc = .ok (.invokestatic i, 3)) (hst : S0 = As.reverse ++ S)
    (kk : ya_E X Y Γ (pc + 3) L (.long x :: S) G d' k n) : ya_E X Y Γ pc L S0 G d k n := by
  refine ya_callS hct hm hlk hn hfit hcat (by rw [hz.1, hz.2]; exact hkn) (by rw [hz.1]; rfl) hd hst ?_
  rw [hz.1, hz.2]
  exact kk
theorem ya_callSNl {y : MethodName} {Yc : ya_Y} {i np : Nat} {As S0 : List Value} {d' : ya_D} {x : Int64} (hct : ya_Ct X y Yc As G d (some (.long x), G, d')) (hm : ya_mS y Yc np) (hz : ya_z0 Yc) {host : String} (j : Nat) (hj : ya_nest[j]? = some (Y.2.1, i, y, host)) (hn : As.length = np) (hfit : ya_fit Y Yc) (hcat : (S.map fun v => v.category).sum ≤ 8) (hkn : k ≤ Y.2.2.2.2.2.cells ∧ n ≤ Y.2.2.2.2.2.slots) (hd : decode Y.1 pc = .ok (.invokestatic i, 3)) (hst : S0 = As.reverse ++ S)
    (kk : ya_E X Y Γ (pc + 3) L (.long x :: S) G d' k n) : ya_E X Y Γ pc L S0 G d k n := by
  refine ya_callSN hct hm j hj hn hfit hcat (by rw [hz.1, hz.2]; exact hkn) (by rw [hz.1]; rfl) hd hst ?_
  rw [hz.1, hz.2]
  exact kk
theorem ya_callVv {y : MethodName} {Yc : ya_Y} {i np : Nat} {As S0 : List Value} {d' : ya_D} {a ci : Nat} {q : vw_C} (hct : ya_Ct X y Yc (.ref (X.2.1 + a) :: As) G d (none, G, d')) (hm : ya_mV y Yc np) (hz : ya_z0 Yc) (hlk : Cond.methodLink Y.2.1 i y ∈ lw_g) (hn : As.length = np) (hfit : ya_fit Y Yc) (hcat : (S.map fun v => v.category).sum ≤ 8) (ha : a < G.1) (hs : (G.2.1 a).1 = ci) (hci : ci < 20) (hcl : ya_cl[ci]? = some q) (hq : q.1 = y.cls) (hkn : k ≤ Y.2.2.2.2.2.cells ∧ n ≤ Y.2.2.2.2.2.slots) (hd : decode Y.1 pc = .ok (.invokevirtual i, 3)) (hst : S0 = As.reverse ++ .ref (X.2.1 + a) :: S)
    (kk : ya_E X Y Γ (pc + 3) L (S) G d' k n) : ya_E X Y Γ pc L S0 G d k n := by
  refine ya_callV hct hm hlk hn hfit hcat (by rw [hz.1, hz.2]; exact hkn) (by rw [hz.1]; rfl) ha hs hci hcl hq hd hst ?_
  rw [hz.1, hz.2]
  exact kk
theorem ya_callSv {y : MethodName} {Yc : ya_Y} {i np : Nat} {As S0 : List Value} {d' : ya_D} (hct : ya_Ct X y Yc As G d (none, G, d')) (hm : ya_mS y Yc np) (hz : ya_z0 Yc) (hlk : Cond.methodLink Y.2.1 i y ∈ lw_g) (hn : As.length = np) (hfit : ya_fit Y Yc) (hcat : (S.map fun v => v.category).sum ≤ 8) (hkn : k ≤ Y.2.2.2.2.2.cells ∧ n ≤ Y.2.2.2.2.2.slots) (hd : decode Y.1 pc = .ok (.invokestatic i, 3)) (hst : S0 = As.reverse ++ S)
    (kk : ya_E X Y Γ (pc + 3) L (S) G d' k n) : ya_E X Y Γ pc L S0 G d k n := by
  refine ya_callS hct hm hlk hn hfit hcat (by rw [hz.1, hz.2]; exact hkn) (by rw [hz.1]; rfl) hd hst ?_
  rw [hz.1, hz.2]
  exact kk
theorem ya_callSNv {y : MethodName} {Yc : ya_Y} {i np : Nat} {As S0 : List Value} {d' : ya_D} (hct : ya_Ct X y Yc As G d (none, G, d')) (hm : ya_mS y Yc np) (hz : ya_z0 Yc) {host : String} (j : Nat) (hj : ya_nest[j]? = some (Y.2.1, i, y, host)) (hn : As.length = np) (hfit : ya_fit Y Yc) (hcat : (S.map fun v => v.category).sum ≤ 8) (hkn : k ≤ Y.2.2.2.2.2.cells ∧ n ≤ Y.2.2.2.2.2.slots) (hd : decode Y.1 pc = .ok (.invokestatic i, 3)) (hst : S0 = As.reverse ++ S)
    (kk : ya_E X Y Γ (pc + 3) L (S) G d' k n) : ya_E X Y Γ pc L S0 G d k n := by
  refine ya_callSN hct hm j hj hn hfit hcat (by rw [hz.1, hz.2]; exact hkn) (by rw [hz.1]; rfl) hd hst ?_
  rw [hz.1, hz.2]
  exact kk
theorem ya_callVa {y : MethodName} {Yc : ya_Y} {i np : Nat} {As S0 : List Value} {d' : ya_D} {a ci : Nat} {q : vw_C} {x : Nat} (hct : ya_Ct X y Yc (.ref (X.2.1 + a) :: As) G d (some (.ref x), G, d')) (hm : ya_mV y Yc np) (hz : ya_z0 Yc) (hlk : Cond.methodLink Y.2.1 i y ∈ lw_g) (hn : As.length = np) (hfit : ya_fit Y Yc) (hcat : (S.map fun v => v.category).sum ≤ 8) (ha : a < G.1) (hs : (G.2.1 a).1 = ci) (hci : ci < 20) (hcl : ya_cl[ci]? = some q) (hq : q.1 = y.cls) (hkn : k ≤ Y.2.2.2.2.2.cells ∧ n ≤ Y.2.2.2.2.2.slots) (hd : decode Y.1 pc = .ok (.invokevirtual i, 3)) (hst : S0 = As.reverse ++ .ref (X.2.1 + a) :: S)
    (kk : ya_E X Y Γ (pc + 3) L (.ref x :: S) G d' k n) : ya_E X Y Γ pc L S0 G d k n := by
  refine ya_callV hct hm hlk hn hfit hcat (by rw [hz.1, hz.2]; exact hkn) (by rw [hz.1]; rfl) ha hs hci hcl hq hd hst ?_
  rw [hz.1, hz.2]
  exact kk
theorem ya_callSa {y : MethodName} {Yc : ya_Y} {i np : Nat} {As S0 : List Value} {d' : ya_D} {x : Nat} (hct : ya_Ct X y Yc As G d (some (.ref x), G, d')) (hm : ya_mS y Yc np) (hz : ya_z0 Yc) (hlk : Cond.methodLink Y.2.1 i y ∈ lw_g) (hn : As.length = np) (hfit : ya_fit Y Yc) (hcat : (S.map fun v => v.category).sum ≤ 8) (hkn : k ≤ Y.2.2.2.2.2.cells ∧ n ≤ Y.2.2.2.2.2.slots) (hd : decode Y.1 pc = .ok (.invokestatic i, 3)) (hst : S0 = As.reverse ++ S)
    (kk : ya_E X Y Γ (pc + 3) L (.ref x :: S) G d' k n) : ya_E X Y Γ pc L S0 G d k n := by
  refine ya_callS hct hm hlk hn hfit hcat (by rw [hz.1, hz.2]; exact hkn) (by rw [hz.1]; rfl) hd hst ?_
  rw [hz.1, hz.2]
  exact kk
theorem ya_callSNa {y : MethodName} {Yc : ya_Y} {i np : Nat} {As S0 : List Value} {d' : ya_D} {x : Nat} (hct : ya_Ct X y Yc As G d (some (.ref x), G, d')) (hm : ya_mS y Yc np) (hz : ya_z0 Yc) {host : String} (j : Nat) (hj : ya_nest[j]? = some (Y.2.1, i, y, host)) (hn : As.length = np) (hfit : ya_fit Y Yc) (hcat : (S.map fun v => v.category).sum ≤ 8) (hkn : k ≤ Y.2.2.2.2.2.cells ∧ n ≤ Y.2.2.2.2.2.slots) (hd : decode Y.1 pc = .ok (.invokestatic i, 3)) (hst : S0 = As.reverse ++ S)
    (kk : ya_E X Y Γ (pc + 3) L (.ref x :: S) G d' k n) : ya_E X Y Γ pc L S0 G d k n := by
  refine ya_callSN hct hm j hj hn hfit hcat (by rw [hz.1, hz.2]; exact hkn) (by rw [hz.1]; rfl) hd hst ?_
  rw [hz.1, hz.2]
  exact kk
def ya_min (x y : Int32) : Int32 := if y < x then y else x
theorem ya_mmin {i : Nat} {x y : Int32} (hlk : Cond.methodLink Y.2.1 i Lib.Math.min.name ∈ lw_g) (h1 : Cond.static Lib.Math.min.name ∈ lw_g) (h2 : Cond.initialized "java/lang/Math" ∈ lw_g) (h3 : Cond.code Lib.Math.min.name Lib.Math.min.code 2 (some .int) ∈ lw_g) (hfr : 1 ≤ Y.2.2.2.2.2.frames) (hlo : (S.map fun v => v.category).sum + 13 ≤ Y.2.2.2.2.2.locals) (hkn : k ≤ Y.2.2.2.2.2.cells ∧ n ≤ Y.2.2.2.2.2.slots) (hd : decode Y.1 pc = .ok (.invokestatic i, 3))
    (kk : ya_E X Y Γ (pc + 3) L (.int (ya_min x y) :: S) G d k n) : ya_E X Y Γ pc L (.int y :: .int x :: S) G d k n := by
  intro p e s m args below meth c H locs ls hC hH hl
  exact va_mmin hC.1 hC.2.1 (hC.2.2.1.trans hl.1.symm) hC.2.2.2.1 (hC.2.2.2.2.1 _ hlk) (hC.2.2.2.2.1 _ h1) (hC.2.2.2.2.1 _ h2) (hC.2.2.2.2.1 _ h3) hfr hlo hkn.1 hkn.2 hd (kk p e s m args below meth c H locs ls hC hH hl)
def ya_max (x y : Int32) : Int32 := if x < y then y else x
theorem ya_mmax {i : Nat} {x y : Int32} (hlk : Cond.methodLink Y.2.1 i Lib.Math.max.name ∈ lw_g) (h1 : Cond.static Lib.Math.max.name ∈ lw_g) (h2 : Cond.initialized "java/lang/Math" ∈ lw_g) (h3 : Cond.code Lib.Math.max.name Lib.Math.max.code 2 (some .int) ∈ lw_g) (hfr : 1 ≤ Y.2.2.2.2.2.frames) (hlo : (S.map fun v => v.category).sum + 13 ≤ Y.2.2.2.2.2.locals) (hkn : k ≤ Y.2.2.2.2.2.cells ∧ n ≤ Y.2.2.2.2.2.slots) (hd : decode Y.1 pc = .ok (.invokestatic i, 3))
    (kk : ya_E X Y Γ (pc + 3) L (.int (ya_max x y) :: S) G d k n) : ya_E X Y Γ pc L (.int y :: .int x :: S) G d k n := by
  intro p e s m args below meth c H locs ls hC hH hl
  exact va_mmax hC.1 hC.2.1 (hC.2.2.1.trans hl.1.symm) hC.2.2.2.1 (hC.2.2.2.2.1 _ hlk) (hC.2.2.2.2.1 _ h1) (hC.2.2.2.2.1 _ h2) (hC.2.2.2.2.1 _ h3) hfr hlo hkn.1 hkn.2 hd (kk p e s m args below meth c H locs ls hC hH hl)
def ya_cI (d : ya_D) (a sp b dp n : Nat) : ya_D := (fun a' k' => if a' = b ∧ dp ≤ k' ∧ k' < dp + n then d.1 a (sp + (k' - dp)) else d.1 a' k', d.2)
def ya_cL (d : ya_D) (a sp b dp n : Nat) : ya_D := (d.1, fun a' k' => if a' = b ∧ dp ≤ k' ∧ k' < dp + n then d.2 a (sp + (k' - dp)) else d.2 a' k')
def ya_okc (sp dp n : Int32) (n0 n1 : Nat) : Bool := !(decide (sp < 0) || decide (dp < 0) || decide (n < 0) || decide (n0 < sp.toNatClampNeg + n.toNatClampNeg) || decide (n1 < dp.toNatClampNeg + n.toNatClampNeg))
def ya_kI (d : ya_D) (a n0 : Nat) (sp : Int32) (b n1 : Nat) (dp n : Int32) : Option ya_D := if ya_okc sp dp n n0 n1 then some (ya_cI d a sp.toNatClampNeg b dp.toNatClampNeg n.toNatClampNeg) else none
def ya_kL (d : ya_D) (a n0 : Nat) (sp : Int32) (b n1 : Nat) (dp n : Int32) : Option ya_D := if ya_okc sp dp n n0 n1 then some (ya_cL d a sp.toNatClampNeg b dp.toNatClampNeg n.toNatClampNeg) else none
theorem ya_okc_s {sp dp n : Int32} {n0 n1 : Nat} (h : ya_okc sp dp n n0 n1 = true) : ¬ sp < 0 ∧ ¬ dp < 0 ∧ ¬ n < 0 ∧ sp.toNatClampNeg + n.toNatClampNeg ≤ n0 ∧ dp.toNatClampNeg + n.toNatClampNeg ≤ n1 := by
  simp only [ya_okc, Bool.not_eq_true', Bool.or_eq_false_iff, decide_eq_false_iff_not] at h
  exact ⟨h.1.1.1.1, h.1.1.1.2, h.1.1.2, by omega, by omega⟩
theorem ya_copyI {i a b n0 n1 : Nat} {sp dp z : Int32} {γ : Type} {f : ya_D → Option γ} {rr : γ} (hs1 : G.2.1 a = (20, n0)) (ha : a < G.1) (hs2 : G.2.1 b = (20, n1)) (hb : b < G.1) (hlk : Cond.methodLink Y.2.1 i arraycopyName ∈ lw_g) (h1 : Cond.native arraycopyName ∈ lw_g) (h2 : Cond.static arraycopyName ∈ lw_g) (h3 : Cond.initialized "java/lang/System" ∈ lw_g) (hfr : 1 ≤ Y.2.2.2.2.2.frames) (hlo : (S.map fun v => v.category).sum + (nativeFrameWords "java/lang/System" "arraycopy" 5 + 11) ≤ Y.2.2.2.2.2.locals) (hd : decode Y.1 pc = .ok (.invokestatic i, 3)) (h : (ya_kI d a n0 sp b n1 dp z).bind f = some rr)
    (kk : ∀ d', f d' = some rr → ya_E X Y Γ (pc + 3) L S G d' k n) : ya_E X Y Γ pc L (.int z :: .int dp :: .ref (X.2.1 + b) :: .int sp :: .ref (X.2.1 + a) :: S) G d k n := by
  intro p e s m args below meth c H locs ls hC hH hl
  obtain ⟨d', hx, h⟩ := ya_ob h
  unfold ya_kI at hx
  split at hx
  · have hok := ya_okc_s ‹_›
    obtain rfl := Option.some.inj hx
    refine va_copyi hC.1 hC.2.1 (hC.2.2.1.trans hl.1.symm) hC.2.2.2.1 (hC.2.2.2.2.1 _ hlk) (hC.2.2.2.2.1 _ h1) (hC.2.2.2.2.1 _ h2) (hC.2.2.2.2.1 _ h3) hC.2.2.2.2.2.1 hH.1 ya_w_D hH.2.1 a b 0 0 (by rw [ya_w_at ha, ya_e_i hs1 (by decide) (by decide)]) (by rw [ya_w_at hb, ya_e_i hs2 (by decide) (by decide)]) (ya_tyat (k := 20) (by decide) (by decide)) (ya_tyat (k := 20) (by decide) (by decide)) rfl hok.1 hok.2.1 hok.2.2.1 hok.2.2.2.1 hok.2.2.2.2 (fun _ _ => rfl) hfr hlo hd (fun H1 locs1 hP1 _ hS1 => ?_)
    have he : ya_e X G (ya_cI d a sp.toNatClampNeg b dp.toNatClampNeg z.toNatClampNeg) b = .inl (X.2.2.2.2.1 20, n1, .inl (va_cpy (d.1 a) (d.1 b) sp.toNatClampNeg dp.toNatClampNeg z.toNatClampNeg)) := by
      rw [ya_e_i hs2 (by decide) (by decide)]
      congr 4
      funext q
      simp [ya_cI, va_cpy]
    have ho : ∀ b', b' ≠ b → ya_e X G (ya_cI d a sp.toNatClampNeg b dp.toNatClampNeg z.toNatClampNeg) b' = ya_e X G d b' := by
      intro b' hb'
      have h1 : (ya_cI d a sp.toNatClampNeg b dp.toNatClampNeg z.toNatClampNeg).1 b' = d.1 b' := by
        funext q
        simp [ya_cI, hb']
      have h2 : (ya_cI d a sp.toNatClampNeg b dp.toNatClampNeg z.toNatClampNeg).2 b' = d.2 b' := by
        funext q
        simp [ya_cI, hb']
      unfold ya_e
      rw [h1, h2]
    rw [ya_w_set (G := G) (G' := G) (d := d) (d' := ya_cI d a sp.toNatClampNeg b dp.toNatClampNeg z.toNatClampNeg) rfl he ho] at hP1
    exact kk _ h p e s m args below meth c H1 locs1 ls hC ⟨hP1, hS1, hH.2.2⟩ hl
  · cases hx
theorem ya_copyL {i a b n0 n1 : Nat} {sp dp z : Int32} {γ : Type} {f : ya_D → Option γ} {rr : γ} (hs1 : G.2.1 a = (24, n0)) (ha : a < G.1) (hs2 : G.2.1 b = (24, n1)) (hb : b < G.1) (hlk : Cond.methodLink Y.2.1 i arraycopyName ∈ lw_g) (h1 : Cond.native arraycopyName ∈ lw_g) (h2 : Cond.static arraycopyName ∈ lw_g) (h3 : Cond.initialized "java/lang/System" ∈ lw_g) (hfr : 1 ≤ Y.2.2.2.2.2.frames) (hlo : (S.map fun v => v.category).sum + (nativeFrameWords "java/lang/System" "arraycopy" 5 + 11) ≤ Y.2.2.2.2.2.locals) (hd : decode Y.1 pc = .ok (.invokestatic i, 3)) (h : (ya_kL d a n0 sp b n1 dp z).bind f = some rr)
    (kk : ∀ d', f d' = some rr → ya_E X Y Γ (pc + 3) L S G d' k n) : ya_E X Y Γ pc L (.int z :: .int dp :: .ref (X.2.1 + b) :: .int sp :: .ref (X.2.1 + a) :: S) G d k n := by
  intro p e s m args below meth c H locs ls hC hH hl
  obtain ⟨d', hx, h⟩ := ya_ob h
  unfold ya_kL at hx
  split at hx
  · have hok := ya_okc_s ‹_›
    obtain rfl := Option.some.inj hx
    refine va_copyl hC.1 hC.2.1 (hC.2.2.1.trans hl.1.symm) hC.2.2.2.1 (hC.2.2.2.2.1 _ hlk) (hC.2.2.2.2.1 _ h1) (hC.2.2.2.2.1 _ h2) (hC.2.2.2.2.1 _ h3) hC.2.2.2.2.2.1 hH.1 ya_w_D hH.2.1 a b 4 4 (by rw [ya_w_at ha, ya_e_l hs1]) (by rw [ya_w_at hb, ya_e_l hs2]) (ya_tyat (k := 24) (by decide) (by decide)) (ya_tyat (k := 24) (by decide) (by decide)) rfl hok.1 hok.2.1 hok.2.2.1 hok.2.2.2.1 hok.2.2.2.2 (fun _ _ => rfl) hfr hlo hd (fun H1 locs1 hP1 _ hS1 => ?_)
    have he : ya_e X G (ya_cL d a sp.toNatClampNeg b dp.toNatClampNeg z.toNatClampNeg) b = .inl (X.2.2.2.2.1 24, n1, .inr (.inl (va_cpy (d.2 a) (d.2 b) sp.toNatClampNeg dp.toNatClampNeg z.toNatClampNeg))) := by
      rw [ya_e_l hs2]
      congr 5
      funext q
      simp [ya_cL, va_cpy]
    have ho : ∀ b', b' ≠ b → ya_e X G (ya_cL d a sp.toNatClampNeg b dp.toNatClampNeg z.toNatClampNeg) b' = ya_e X G d b' := by
      intro b' hb'
      have h1 : (ya_cL d a sp.toNatClampNeg b dp.toNatClampNeg z.toNatClampNeg).1 b' = d.1 b' := by
        funext q
        simp [ya_cL, hb']
      have h2 : (ya_cL d a sp.toNatClampNeg b dp.toNatClampNeg z.toNatClampNeg).2 b' = d.2 b' := by
        funext q
        simp [ya_cL, hb']
      unfold ya_e
      rw [h1, h2]
    rw [ya_w_set (G := G) (G' := G) (d := d) (d' := ya_cL d a sp.toNatClampNeg b dp.toNatClampNeg z.toNatClampNeg) rfl he ho] at hP1
    exact kk _ h p e s m args below meth c H1 locs1 ls hC ⟨hP1, hS1, hH.2.2⟩ hl
  · cases hx
theorem ya_ldcS {i q : Nat} {tx : String} (j : Nat) (hj : ya_kref[j]? = some (Y.2.1, i, tx, q)) (hd : decode Y.1 pc = .ok (.ldc i, 2)) (kk : ya_E X Y Γ (pc + 2) L (.ref (X.2.2.2.2.2.2.1 q) :: S) G d k n) : ya_E X Y Γ pc L S G d k n := by
  intro p e s m args below meth c H locs ls hC hH hl
  exact va_ldcS hC.1 hC.2.1 hC.2.2.2.1 (hC.2.2.2.2.2.2.2.2.2.1.2.2.1 j _ hj) hd (kk p e s m args below meth c H locs ls hC hH hl)
end
