/-! NEW: cells that come; constructors -/
def ya_nH (q : Nat) (G : ya_G) (z : Nat × Nat) : ya_G := (q + 1, (fun a => if a = q then z else G.2.1 a), fun a k => if a = q then none else G.2.2 a k)
def ya_nE (q : Nat) (d : ya_D) : ya_D := ((fun a k => if a = q then 0 else d.1 a k), fun a k => if a = q then 0 else d.2 a k)
/-- a cell of an object stands in a world of so many cells -/
def ya_ob_ (G : ya_G) (a ci : Nat) : Prop := (G.2.1 a).1 = ci ∧ a < G.1
def ya_le (G G' : ya_G) : Prop := G.1 ≤ G'.1 ∧ ∀ b, b < G.1 → G'.2.1 b = G.2.1 b
theorem ya_le.rf {G : ya_G} : ya_le G G := ⟨Nat.le_refl _, fun _ _ => rfl⟩
theorem ya_le.tr {G G' G'' : ya_G} (h : ya_le G G') (h' : ya_le G' G'') : ya_le G G'' := ⟨Nat.le_trans h.1 h'.1, fun b hb => (h'.2 b (Nat.lt_of_lt_of_le hb h.1)).trans (h.2 b hb)⟩
theorem ya_le.nH {q : Nat} {G : ya_G} {z : Nat × Nat} (hq : G.1 = q) : ya_le G (ya_nH q G z) := ⟨by show G.1 ≤ q + 1; omega, fun b hb => by show (if b = q then z else G.2.1 b) = _; rw [if_neg (by omega)]⟩
theorem ya_le.sR {G : ya_G} {a k : Nat} {v : Option Nat} : ya_le G (ya_sR G a k v) := ⟨Nat.le_refl _, fun _ _ => rfl⟩
theorem ya_ob_.up {G G' : ya_G} {a ci : Nat} (h : ya_ob_ G a ci) (l : ya_le G G') : ya_ob_ G' a ci := ⟨by rw [l.2 a h.2]; exact h.1, Nat.lt_of_lt_of_le h.2 l.1⟩
theorem ya_ob_.new {q ci n : Nat} {G : ya_G} : ya_ob_ (ya_nH q G (ci, n)) q ci := ⟨by show (if q = q then (ci, n) else G.2.1 q).1 = ci; rw [if_pos rfl], Nat.lt_succ_self q⟩
theorem ya_e_nH {X : ya_X} {q : Nat} {G : ya_G} {d : ya_D} {z : Nat × Nat} (b : Nat) (hb : b < q) : ya_e X (ya_nH q G z) (ya_nE q d) b = ya_e X G d b := by
  have h1 : (ya_nH q G z).2.1 b = G.2.1 b := if_neg (Nat.ne_of_lt hb)
  have h2 : (ya_nH q G z).2.2 b = G.2.2 b := by funext k; exact if_neg (Nat.ne_of_lt hb)
  have h3 : (ya_nE q d).1 b = d.1 b := by funext k; exact if_neg (Nat.ne_of_lt hb)
  have h4 : (ya_nE q d).2 b = d.2 b := by funext k; exact if_neg (Nat.ne_of_lt hb)
  unfold ya_e
  rw [h1, h2, h3, h4]
theorem ya_nH_n {q b k : Nat} {G : ya_G} {z : Nat × Nat} (h : b ≠ q) : (ya_nH q G z).2.2 b k = G.2.2 b k := if_neg h
theorem ya_sR_n {a b i k : Nat} {G : ya_G} {v : Option Nat} (h : b ≠ a) : (ya_sR G a i v).2.2 b k = G.2.2 b k := if_neg (fun e => h e.1)
section
variable {X : ya_X} {Y : ya_Y} {Γ : ya_Γ} {pc : Nat} {L : List (Nat × Value)} {S : List Value} {G : ya_G} {d : ya_D} {k n : Nat}
theorem ya_wsz {p : Program} {l : Launch} {e : Env} {R : Room} {s : State} {m : MethodId} {args : Array Value} {below : List Frame} {meth : Method} {c : Code} {H : Heap} {locs : List Loc} {Q : State → Prop} {g : JFrame} (hH : ya_H X G d k s H locs) (hb : X.2.1 ≤ s.heap.size) (kk : H.size = X.2.1 + G.1 → W p l e R s m args below meth c H locs k n Q g) : W p l e R s m args below meth c H locs k n Q g :=
  fun T hT Xs => kk (ya_size hH hb hT Xs.heapSize) T hT Xs
/-- a class that can be made -/
def ya_mk (own : String) (idx ci N : Nat) : Prop := ∃ (C : String) (T : u_T) (ty : Nat → FieldType), ya_cl[ci]? = some (C, T, N) ∧ (∀ w ∈ u_ws C T N, w ∈ lw_g) ∧ (∀ k, k < N → parseFieldDescriptor (T k).2.2.1 = some (ty k)) ∧ Cond.classLink own idx C ∈ lw_g ∧ Cond.instantiable C N ∈ lw_g ∧ Cond.initialized C ∈ lw_g ∧ ci < 20 ∧
  ∀ (b : Nat) (j : Nat), j < N → defaultValue (ty j) = vp_V (ya_fl b (fun _ => none) (fun _ => 0) (fun _ => 0) (ya_ft ci) 0) j
theorem ya_newO {q idx ci N : Nat} (hm : ya_mk Y.2.1 idx ci N) (hq : G.1 = q) (hcells : k + 1 ≤ Y.2.2.2.2.2.cells) (hslots : n + N ≤ Y.2.2.2.2.2.slots) (hd : decode Y.1 pc = .ok (.new idx, 3))
    (kk : ya_E X Y Γ (pc + 3) L (.ref (X.2.1 + q) :: S) (ya_nH q G (ci, 0)) (ya_nE q d) (k + 1) (n + N)) : ya_E X Y Γ pc L S G d k n := by
  intro p e s m args below meth c H locs ls hC hH hl
  obtain ⟨C, T, ty, h1, h2, h3, h4, h5, h6, h7, h8⟩ := hm
  have hKn := hC.2.2.2.2.2.1.1 ci _ h1
  refine ya_wsz hH hC.2.2.2.2.2.2.2.2.2.2 (fun hz => ?_)
  refine W.newcK hC.1 hC.2.1 hC.2.2.2.1 (hC.2.2.2.2.1 _ h4) (hC.2.2.2.2.1 _ h5) (hC.2.2.2.2.1 _ h6) rfl hd hcells hslots hKn.2.1 (h := X.2.1 + q) (by rw [hz, hq]) fun H1 kC hkC e1 z1 o1 => ?_
  refine kk p e s m args below meth c H1 locs ls hC ⟨?_, ⟨by have := hH.2.1.1; omega, fun x g1 g2 => (o1 x (by have := hH.2.1.1; omega)).trans (hH.2.1.2.1 x g1 g2), hH.2.1.2.2⟩, by show s.heap.size + (k + 1) = X.2.1 + (q + 1); have := hH.2.2; omega⟩ hl
  have hw : ya_w X G d ++ [(X.2.1 + G.1, ya_e X (ya_nH q G (ci, 0)) (ya_nE q d) G.1)] = ya_w X (ya_nH q G (ci, 0)) (ya_nE q d) := ya_w_push (by show q + 1 = G.1 + 1; omega) rfl (fun b hb => ya_e_nH b (by omega))
  rw [← hw]
  refine (hH.1.kept (fun k0 x hx => o1 x.1 (by have := (hH.1 k0 x hx).lt; omega))).app (fun k0 x hx => ?_)
  have hz0 : k0 < 1 := (List.getElem?_eq_some_iff.mp hx).1
  rw [show k0 = 0 by omega] at hx
  cases hx
  rw [hq, ya_e_o (G := ya_nH q G (ci, 0)) (a := q) (ci := ci) (by show (if q = q then (ci, 0) else G.2.1 q).1 = ci; rw [if_pos rfl]) h7]
  refine ⟨_, h1, (u_born ty (fun w hw => hC.2.2.2.2.1 w hw) h2 hKn hkC e1 h3).to (fun j hj => ?_)⟩
  rw [h8 X.2.1 j hj]
  have r1 : (ya_nH q G (ci, 0)).2.2 q = fun _ => none := by funext k; exact if_pos rfl
  have r2 : (ya_nE q d).1 q = fun _ => 0 := by funext k; exact if_pos rfl
  have r3 : (ya_nE q d).2 q = fun _ => 0 := by funext k; exact if_pos rfl
  rw [r1, r2, r3]
theorem ya_newA {q ka : Nat} {at_ : ArrayType} {z : Int32} {N : Nat} (hka : 20 ≤ ka) (hkb : ka < 25) (hta : newarray.typeOf at_ = ya_at ka) (hw0 : Cond.arrayClass (newarray.typeOf at_) ∈ lw_g) (hdv : defaultValue (ya_at ka) = if ka = 24 then .long 0 else .int 0) (hq : G.1 = q) (hn : ¬ z < 0) (hN : z.toNatClampNeg = N) (hb : N * componentBytes (newarray.typeOf at_) ≤ 536870912) (hcells : k + 1 ≤ Y.2.2.2.2.2.cells) (hslots : n + N ≤ Y.2.2.2.2.2.slots) (hd : decode Y.1 pc = .ok (.newarray at_, 2))
    (kk : ya_E X Y Γ (pc + 2) L (.ref (X.2.1 + q) :: S) (ya_nH q G (ka, N)) (ya_nE q d) (k + 1) (n + N)) : ya_E X Y Γ pc L (.int z :: S) G d k n := by
  intro p e s m args below meth c H locs ls hC hH hl
  refine ya_wsz hH hC.2.2.2.2.2.2.2.2.2.2 (fun hz => ?_)
  refine va_newaK hC.1 hC.2.1 (hC.2.2.2.2.1 _ hw0) rfl hd rfl hn hN hb hcells hslots (h := X.2.1 + q) (by rw [hz, hq]) fun H1 cA e1 z1 o1 hAr hNm => ?_
  have hcA : cA = X.2.2.2.2.1 ka := by
    have h1 := (hC.2.2.2.2.2.1.2 (ka - 20) _ (ya_tyat hka (by omega))).2
    rw [hta] at hNm
    have h2 : s.vm.findClass ("[" ++ (ya_at ka).toString) = some (X.2.2.2.2.1 ka) := by
      revert h1
      have : ka = 20 ∨ ka = 21 ∨ ka = 22 ∨ ka = 23 ∨ ka = 24 := by omega
      rcases this with rfl | rfl | rfl | rfl | rfl <;> exact fun h => h
    exact Option.some.inj (hNm.symm.trans h2)
  refine kk p e s m args below meth c H1 locs ls hC ⟨?_, ⟨by have := hH.2.1.1; omega, fun x g1 g2 => (o1 x (by have := hH.2.1.1; omega)).trans (hH.2.1.2.1 x g1 g2), hH.2.1.2.2⟩, by show s.heap.size + (k + 1) = X.2.1 + (q + 1); have := hH.2.2; omega⟩ hl
  have hw : ya_w X G d ++ [(X.2.1 + G.1, ya_e X (ya_nH q G (ka, N)) (ya_nE q d) G.1)] = ya_w X (ya_nH q G (ka, N)) (ya_nE q d) := ya_w_push (by show q + 1 = G.1 + 1; omega) rfl (fun b hb => ya_e_nH b (by omega))
  rw [← hw]
  refine (hH.1.kept (fun k0 x hx => o1 x.1 (by have := (hH.1 k0 x hx).lt; omega))).app (fun k0 x hx => ?_)
  have hz0 : k0 < 1 := (List.getElem?_eq_some_iff.mp hx).1
  rw [show k0 = 0 by omega] at hx
  cases hx
  have hs : (ya_nH q G (ka, N)).2.1 q = (ka, N) := if_pos rfl
  have r2 : (ya_nE q d).1 q = fun _ => 0 := by funext k; exact if_pos rfl
  have r3 : (ya_nE q d).2 q = fun _ => 0 := by funext k; exact if_pos rfl
  rw [hta, hdv, hcA] at e1
  rw [hq]
  by_cases h24 : ka = 24
  · subst h24
    rw [ya_e_l hs, r3]
    exact e1
  · rw [ya_e_i hs hka (by omega), r2]
    rw [if_neg h24] at e1
    exact e1
theorem ya_newQ {q ka idx : Nat} {z : Int32} {N : Nat} {C : String} (hka : 24 < ka) (hkb : ka < 27) (hta : ya_at ka = .object C) (hlk : Cond.classLink Y.2.1 idx C ∈ lw_g) (hC0 : C = "YearAgo$Market" ∨ C = "YearAgo$Row") (hq : G.1 = q) (hn : ¬ z < 0) (hN : z.toNatClampNeg = N) (hb : N * 4 ≤ 536870912) (hcells : k + 1 ≤ Y.2.2.2.2.2.cells) (hslots : n + N ≤ Y.2.2.2.2.2.slots) (hd : decode Y.1 pc = .ok (.anewarray idx, 3))
    (kk : ya_E X Y Γ (pc + 3) L (.ref (X.2.1 + q) :: S) (ya_nH q G (ka, N)) (ya_nE q d) (k + 1) (n + N)) : ya_E X Y Γ pc L (.int z :: S) G d k n := by
  intro p e s m args below meth c H locs ls hC hH hl
  refine ya_wsz hH hC.2.2.2.2.2.2.2.2.2.2 (fun hz => ?_)
  have hao : va_AO C s := by
    have h9 := hC.2.2.2.2.2.2.2.2.2.1.2.2.2.2.2.2.2.1
    rcases hC0 with rfl | rfl
    · exact h9.1
    · exact h9.2
  subst hN
  refine W.anew hC.1 hC.2.1 hC.2.2.2.1 (hC.2.2.2.2.1 _ hlk) (va_AO.use hao) rfl hd rfl hn hb hcells hslots fun cA kA comp f1 f2 f3 f4 => ?_
  generalize hH1 : H.push ({ cls := cA, slots := Array.replicate z.toNatClampNeg .null, vm := .none } : Cell) = H1
  have z1 : H1.size = H.size + 1 := by rw [← hH1, Array.size_push]
  have e1 : H1[H.size]? = some (arrV cA z.toNatClampNeg (fun _ => .null)) := by rw [← hH1, Array.getElem?_push_size, ← arrV_new]
  have o1 : ∀ x : Nat, x < H.size → H1[x]? = H[x]? := fun x hx => by rw [← hH1, Array.getElem?_push, if_neg (Nat.ne_of_lt hx)]
  have hcA : cA = X.2.2.2.2.1 ka := by
    have h1 := (hC.2.2.2.2.2.1.2 (ka - 20) _ (ya_tyat (by omega) hkb)).2
    rw [hta] at h1
    obtain ⟨kA', comp', g1, g2, g3, g4⟩ := h1
    exact Option.some.inj (f1.symm.trans g4)
  have hHz : H.size = X.2.1 + q := by rw [hz, hq]
  have hgoal := kk p e s m args below meth c H1 locs ls hC ⟨?_, ⟨by have := hH.2.1.1; omega, fun x g1 g2 => (o1 x (by have := hH.2.1.1; omega)).trans (hH.2.1.2.1 x g1 g2), hH.2.1.2.2⟩, by show s.heap.size + (k + 1) = X.2.1 + (q + 1); have := hH.2.2; omega⟩ hl
  · rw [hHz]
    exact hgoal
  have hw : ya_w X G d ++ [(X.2.1 + G.1, ya_e X (ya_nH q G (ka, z.toNatClampNeg)) (ya_nE q d) G.1)] = ya_w X (ya_nH q G (ka, z.toNatClampNeg)) (ya_nE q d) := ya_w_push (by show q + 1 = G.1 + 1; omega) rfl (fun b hb => ya_e_nH b (by omega))
  rw [← hw]
  refine (hH.1.kept (fun k0 x hx => o1 x.1 ((hH.1 k0 x hx).lt))).app (fun k0 x hx => ?_)
  have hz0 : k0 < 1 := (List.getElem?_eq_some_iff.mp hx).1
  rw [show k0 = 0 by omega] at hx
  cases hx
  have hs : (ya_nH q G (ka, z.toNatClampNeg)).2.1 q = (ka, z.toNatClampNeg) := if_pos rfl
  have r1 : (ya_nH q G (ka, z.toNatClampNeg)).2.2 q = fun _ => none := by funext k; exact if_pos rfl
  rw [hq, ya_e_q hs hka, r1, ← hHz]
  rw [hcA] at e1
  exact e1
/-- a store of a number at a place that is there -/
theorem ya_iastX {a na : Nat} {i x : Int32} (hs : G.2.1 a = (20, na)) (ha : a < G.1) (hin : vp_in i na) (hd : decode Y.1 pc = .ok (.iastore, 1))
    (kk : ya_E X Y Γ (pc + 1) L S G (ya_sI d a i.toNatClampNeg x) k n) : ya_E X Y Γ pc L (.int x :: .int i :: .ref (X.2.1 + a) :: S) G d k n :=
  ya_iast (f := some) (rr := ya_sI d a i.toNatClampNeg x) hs ha hd (by unfold ya_wI; rw [if_neg hin]; rfl) (fun d' h => by cases h; exact kk)
end
theorem ya_dvX7 (b : Nat) : ∀ j, j < 2 → defaultValue (tyX7 j) = vp_V (ya_fl b (fun _ => none) (fun _ => 0) (fun _ => 0) (ya_ft 7) 0) j
  | 0, _ => rfl
  | 1, _ => rfl
  | n + 2, h => absurd h (by omega)
theorem ya_dvX3 (b : Nat) : ∀ j, j < 6 → defaultValue (tyX3 j) = vp_V (ya_fl b (fun _ => none) (fun _ => 0) (fun _ => 0) (ya_ft 3) 0) j
  | 0, _ => rfl
  | 1, _ => rfl
  | 2, _ => rfl
  | 3, _ => rfl
  | 4, _ => rfl
  | 5, _ => rfl
  | n + 6, h => absurd h (by omega)
theorem ya_dvX2 (b : Nat) : ∀ j, j < 6 → defaultValue (tyX2 j) = vp_V (ya_fl b (fun _ => none) (fun _ => 0) (fun _ => 0) (ya_ft 2) 0) j
  | 0, _ => rfl
  | 1, _ => rfl
  | 2, _ => rfl
  | 3, _ => rfl
  | 4, _ => rfl
  | 5, _ => rfl
  | n + 6, h => absurd h (by omega)
theorem ya_dvX8 (b : Nat) : ∀ j, j < 5 → defaultValue (tyX8 j) = vp_V (ya_fl b (fun _ => none) (fun _ => 0) (fun _ => 0) (ya_ft 8) 0) j
  | 0, _ => rfl
  | 1, _ => rfl
  | 2, _ => rfl
  | 3, _ => rfl
  | 4, _ => rfl
  | n + 5, h => absurd h (by omega)
theorem ya_dvX6 (b : Nat) : ∀ j, j < 5 → defaultValue (tyX6 j) = vp_V (ya_fl b (fun _ => none) (fun _ => 0) (fun _ => 0) (ya_ft 6) 0) j
  | 0, _ => rfl
  | 1, _ => rfl
  | 2, _ => rfl
  | 3, _ => rfl
  | 4, _ => rfl
  | n + 5, h => absurd h (by omega)
theorem ya_dvX1 (b : Nat) : ∀ j, j < 7 → defaultValue (tyX1 j) = vp_V (ya_fl b (fun _ => none) (fun _ => 0) (fun _ => 0) (ya_ft 1) 0) j
  | 0, _ => rfl
  | 1, _ => rfl
  | 2, _ => rfl
  | 3, _ => rfl
  | 4, _ => rfl
  | 5, _ => rfl
  | 6, _ => rfl
  | n + 7, h => absurd h (by omega)
theorem ya_dvX9 (b : Nat) : ∀ j, j < 4 → defaultValue (tyX9 j) = vp_V (ya_fl b (fun _ => none) (fun _ => 0) (fun _ => 0) (ya_ft 9) 0) j
  | 0, _ => rfl
  | 1, _ => rfl
  | 2, _ => rfl
  | 3, _ => rfl
  | n + 4, h => absurd h (by omega)
theorem ya_dvX10 (b : Nat) : ∀ j, j < 17 → defaultValue (tyX10 j) = vp_V (ya_fl b (fun _ => none) (fun _ => 0) (fun _ => 0) (ya_ft 10) 0) j
  | 0, _ => rfl
  | 1, _ => rfl
  | 2, _ => rfl
  | 3, _ => rfl
  | 4, _ => rfl
  | 5, _ => rfl
  | 6, _ => rfl
  | 7, _ => rfl
  | 8, _ => rfl
  | 9, _ => rfl
  | 10, _ => rfl
  | 11, _ => rfl
  | 12, _ => rfl
  | 13, _ => rfl
  | 14, _ => rfl
  | 15, _ => rfl
  | 16, _ => rfl
  | n + 17, h => absurd h (by omega)
theorem ya_dvX5 (b : Nat) : ∀ j, j < 8 → defaultValue (tyX5 j) = vp_V (ya_fl b (fun _ => none) (fun _ => 0) (fun _ => 0) (ya_ft 5) 0) j
  | 0, _ => rfl
  | 1, _ => rfl
  | 2, _ => rfl
  | 3, _ => rfl
  | 4, _ => rfl
  | 5, _ => rfl
  | 6, _ => rfl
  | 7, _ => rfl
  | n + 8, h => absurd h (by omega)
theorem ya_dvX0 (b : Nat) : ∀ j, j < 1 → defaultValue (tyX0 j) = vp_V (ya_fl b (fun _ => none) (fun _ => 0) (fun _ => 0) (ya_ft 0) 0) j
  | 0, _ => rfl
  | n + 1, h => absurd h (by omega)
theorem ml_X11_1 : Cond.methodLink RX11 1 Lib.objectInit ∈ lw_g := ya_in 130 (by decide +kernel) (by decide +kernel)
theorem ml_X7_3 : Cond.methodLink RX7 3 Lib.objectInit ∈ lw_g := ya_in 138 (by decide +kernel) (by decide +kernel)
theorem wa_23 : Cond.arrayClass (newarray.typeOf .char) ∈ lw_g := ya_in 149 (by decide +kernel) (by decide +kernel)
theorem ml_X3_3 : Cond.methodLink RX3 3 Lib.objectInit ∈ lw_g := ya_in 155 (by decide +kernel) (by decide +kernel)
theorem ml_X2_1 : Cond.methodLink RX2 1 Lib.objectInit ∈ lw_g := ya_in 161 (by decide +kernel) (by decide +kernel)
theorem ml_X8_3 : Cond.methodLink RX8 3 Lib.objectInit ∈ lw_g := ya_in 167 (by decide +kernel) (by decide +kernel)
theorem wa_20 : Cond.arrayClass (newarray.typeOf .int) ∈ lw_g := ya_in 200 (by decide +kernel) (by decide +kernel)
theorem ml_X6_3 : Cond.methodLink RX6 3 Lib.objectInit ∈ lw_g := ya_in 206 (by decide +kernel) (by decide +kernel)
theorem ml_X1_3 : Cond.methodLink RX1 3 Lib.objectInit ∈ lw_g := ya_in 238 (by decide +kernel) (by decide +kernel)
theorem ml_X9_1 : Cond.methodLink RX9 1 Lib.objectInit ∈ lw_g := ya_in 322 (by decide +kernel) (by decide +kernel)
theorem ml_X10_3 : Cond.methodLink RX10 3 Lib.objectInit ∈ lw_g := ya_in 368 (by decide +kernel) (by decide +kernel)
theorem ml_X5_3 : Cond.methodLink RX5 3 Lib.objectInit ∈ lw_g := ya_in 439 (by decide +kernel) (by decide +kernel)
theorem ml_X0_3 : Cond.methodLink RX0 3 Lib.objectInit ∈ lw_g := ya_in 471 (by decide +kernel) (by decide +kernel)
theorem wc_X11_23 : Cond.classLink RX11 23 "YearAgo$Market" ∈ lw_g := ya_in 361 (by decide +kernel) (by decide +kernel)
theorem wc_X11_58 : Cond.classLink RX11 58 "YearAgo$Row" ∈ lw_g := ya_in 478 (by decide +kernel) (by decide +kernel)
theorem ml_X12_3 : Cond.methodLink RX12 3 Lib.objectInit ∈ lw_g := ya_in 1250 (by decide +kernel) (by decide +kernel)
theorem wa_22 : Cond.arrayClass (newarray.typeOf .boolean) ∈ lw_g := ya_in 1356 (by decide +kernel) (by decide +kernel)
theorem wa_21 : Cond.arrayClass (newarray.typeOf .byte) ∈ lw_g := ya_in 756 (by decide +kernel) (by decide +kernel)
theorem wa_24 : Cond.arrayClass (newarray.typeOf .long) ∈ lw_g := ya_in 1220 (by decide +kernel) (by decide +kernel)
theorem ml_X4_3 : Cond.methodLink RX4 3 Lib.objectInit ∈ lw_g := ya_in 1206 (by decide +kernel) (by decide +kernel)
theorem mk_X11_7 : ya_mk RX11 7 7 2 := ⟨RX7, TX7, tyX7, rfl, inX7, tyX7_ok, (ya_in 133 (by decide +kernel) (by decide +kernel)), (ya_in 134 (by decide +kernel) (by decide +kernel)), (ya_in 104 (by decide +kernel) (by decide +kernel)), by decide, fun b j hj => by
  revert hj
  exact ya_dvX7 b j⟩
theorem mk_X11_16 : ya_mk RX11 16 3 6 := ⟨RX3, TX3, tyX3, rfl, inX3, tyX3_ok, (ya_in 150 (by decide +kernel) (by decide +kernel)), (ya_in 151 (by decide +kernel) (by decide +kernel)), (ya_in 105 (by decide +kernel) (by decide +kernel)), by decide, fun b j hj => by
  revert hj
  exact ya_dvX3 b j⟩
theorem mk_X3_9 : ya_mk RX3 9 2 6 := ⟨RX2, TX2, tyX2, rfl, inX2, tyX2_ok, (ya_in 156 (by decide +kernel) (by decide +kernel)), (ya_in 157 (by decide +kernel) (by decide +kernel)), (ya_in 106 (by decide +kernel) (by decide +kernel)), by decide, fun b j hj => by
  revert hj
  exact ya_dvX2 b j⟩
theorem mk_X2_7 : ya_mk RX2 7 8 5 := ⟨RX8, TX8, tyX8, rfl, inX8, tyX8_ok, (ya_in 162 (by decide +kernel) (by decide +kernel)), (ya_in 163 (by decide +kernel) (by decide +kernel)), (ya_in 107 (by decide +kernel) (by decide +kernel)), by decide, fun b j hj => by
  revert hj
  exact ya_dvX8 b j⟩
theorem mk_X2_16 : ya_mk RX2 16 6 5 := ⟨RX6, TX6, tyX6, rfl, inX6, tyX6_ok, (ya_in 201 (by decide +kernel) (by decide +kernel)), (ya_in 202 (by decide +kernel) (by decide +kernel)), (ya_in 108 (by decide +kernel) (by decide +kernel)), by decide, fun b j hj => by
  revert hj
  exact ya_dvX6 b j⟩
theorem mk_X2_23 : ya_mk RX2 23 1 7 := ⟨RX1, TX1, tyX1, rfl, inX1, tyX1_ok, (ya_in 233 (by decide +kernel) (by decide +kernel)), (ya_in 234 (by decide +kernel) (by decide +kernel)), (ya_in 109 (by decide +kernel) (by decide +kernel)), by decide, fun b j hj => by
  revert hj
  exact ya_dvX1 b j⟩
theorem mk_X3_18 : ya_mk RX3 18 9 4 := ⟨RX9, TX9, tyX9, rfl, inX9, tyX9_ok, (ya_in 317 (by decide +kernel) (by decide +kernel)), (ya_in 318 (by decide +kernel) (by decide +kernel)), (ya_in 110 (by decide +kernel) (by decide +kernel)), by decide, fun b j hj => by
  revert hj
  exact ya_dvX9 b j⟩
theorem mk_X11_23 : ya_mk RX11 23 2 6 := ⟨RX2, TX2, tyX2, rfl, inX2, tyX2_ok, (ya_in 361 (by decide +kernel) (by decide +kernel)), (ya_in 157 (by decide +kernel) (by decide +kernel)), (ya_in 106 (by decide +kernel) (by decide +kernel)), by decide, fun b j hj => by
  revert hj
  exact ya_dvX2 b j⟩
theorem mk_X11_30 : ya_mk RX11 30 10 17 := ⟨RX10, TX10, tyX10, rfl, inX10, tyX10_ok, (ya_in 363 (by decide +kernel) (by decide +kernel)), (ya_in 364 (by decide +kernel) (by decide +kernel)), (ya_in 111 (by decide +kernel) (by decide +kernel)), by decide, fun b j hj => by
  revert hj
  exact ya_dvX10 b j⟩
theorem mk_X11_40 : ya_mk RX11 40 5 8 := ⟨RX5, TX5, tyX5, rfl, inX5, tyX5_ok, (ya_in 434 (by decide +kernel) (by decide +kernel)), (ya_in 435 (by decide +kernel) (by decide +kernel)), (ya_in 112 (by decide +kernel) (by decide +kernel)), by decide, fun b j hj => by
  revert hj
  exact ya_dvX5 b j⟩
theorem mk_X11_47 : ya_mk RX11 47 0 1 := ⟨RX0, TX0, tyX0, rfl, inX0, tyX0_ok, (ya_in 466 (by decide +kernel) (by decide +kernel)), (ya_in 467 (by decide +kernel) (by decide +kernel)), (ya_in 113 (by decide +kernel) (by decide +kernel)), by decide, fun b j hj => by
  revert hj
  exact ya_dvX0 b j⟩
theorem pg_X7_0 : ∀ q ∈ ya_cl[7]?, (q.2.1 0).2.2.2 = true ∧ q.1 = RX7 ∧ parseFieldDescriptor (q.2.1 0).2.2.1 = some (.array .char) := by
  intro q hq
  obtain rfl : (RX7, TX7, 2) = q := Option.some.inj hq
  exact ⟨rfl, rfl, by decide +kernel⟩
theorem pg_X11_0 : ∀ q ∈ ya_cl[11]?, (q.2.1 0).2.2.2 = true ∧ q.1 = RX11 ∧ parseFieldDescriptor (q.2.1 0).2.2.1 = some (.object "YearAgo$Tape") := by
  intro q hq
  obtain rfl : (RX11, TX11, 10) = q := Option.some.inj hq
  exact ⟨rfl, rfl, by decide +kernel⟩
theorem pg_X8_1 : ∀ q ∈ ya_cl[8]?, (q.2.1 1).2.2.2 = true ∧ q.1 = RX8 ∧ parseFieldDescriptor (q.2.1 1).2.2.1 = some (.array .int) := by
  intro q hq
  obtain rfl : (RX8, TX8, 5) = q := Option.some.inj hq
  exact ⟨rfl, rfl, by decide +kernel⟩
theorem pg_X8_2 : ∀ q ∈ ya_cl[8]?, (q.2.1 2).2.2.2 = true ∧ q.1 = RX8 ∧ parseFieldDescriptor (q.2.1 2).2.2.1 = some (.array .int) := by
  intro q hq
  obtain rfl : (RX8, TX8, 5) = q := Option.some.inj hq
  exact ⟨rfl, rfl, by decide +kernel⟩
theorem pg_X8_3 : ∀ q ∈ ya_cl[8]?, (q.2.1 3).2.2.2 = true ∧ q.1 = RX8 ∧ parseFieldDescriptor (q.2.1 3).2.2.1 = some (.array .int) := by
  intro q hq
  obtain rfl : (RX8, TX8, 5) = q := Option.some.inj hq
  exact ⟨rfl, rfl, by decide +kernel⟩
theorem pg_X8_4 : ∀ q ∈ ya_cl[8]?, (q.2.1 4).2.2.2 = true ∧ q.1 = RX8 ∧ parseFieldDescriptor (q.2.1 4).2.2.1 = some (.array .int) := by
  intro q hq
  obtain rfl : (RX8, TX8, 5) = q := Option.some.inj hq
  exact ⟨rfl, rfl, by decide +kernel⟩
theorem pg_X2_3 : ∀ q ∈ ya_cl[2]?, (q.2.1 3).2.2.2 = true ∧ q.1 = RX2 ∧ parseFieldDescriptor (q.2.1 3).2.2.1 = some (.object "YearAgo$Things") := by
  intro q hq
  obtain rfl : (RX2, TX2, 6) = q := Option.some.inj hq
  exact ⟨rfl, rfl, by decide +kernel⟩
theorem pg_X6_1 : ∀ q ∈ ya_cl[6]?, (q.2.1 1).2.2.2 = true ∧ q.1 = RX6 ∧ parseFieldDescriptor (q.2.1 1).2.2.1 = some (.array .int) := by
  intro q hq
  obtain rfl : (RX6, TX6, 5) = q := Option.some.inj hq
  exact ⟨rfl, rfl, by decide +kernel⟩
theorem pg_X6_2 : ∀ q ∈ ya_cl[6]?, (q.2.1 2).2.2.2 = true ∧ q.1 = RX6 ∧ parseFieldDescriptor (q.2.1 2).2.2.1 = some (.array .int) := by
  intro q hq
  obtain rfl : (RX6, TX6, 5) = q := Option.some.inj hq
  exact ⟨rfl, rfl, by decide +kernel⟩
theorem pg_X6_3 : ∀ q ∈ ya_cl[6]?, (q.2.1 3).2.2.2 = true ∧ q.1 = RX6 ∧ parseFieldDescriptor (q.2.1 3).2.2.1 = some (.array .int) := by
  intro q hq
  obtain rfl : (RX6, TX6, 5) = q := Option.some.inj hq
  exact ⟨rfl, rfl, by decide +kernel⟩
theorem pg_X6_4 : ∀ q ∈ ya_cl[6]?, (q.2.1 4).2.2.2 = true ∧ q.1 = RX6 ∧ parseFieldDescriptor (q.2.1 4).2.2.1 = some (.array .int) := by
  intro q hq
  obtain rfl : (RX6, TX6, 5) = q := Option.some.inj hq
  exact ⟨rfl, rfl, by decide +kernel⟩
theorem pg_X2_4 : ∀ q ∈ ya_cl[2]?, (q.2.1 4).2.2.2 = true ∧ q.1 = RX2 ∧ parseFieldDescriptor (q.2.1 4).2.2.1 = some (.object "YearAgo$Sellers") := by
  intro q hq
  obtain rfl : (RX2, TX2, 6) = q := Option.some.inj hq
  exact ⟨rfl, rfl, by decide +kernel⟩
theorem pg_X1_1 : ∀ q ∈ ya_cl[1]?, (q.2.1 1).2.2.2 = true ∧ q.1 = RX1 ∧ parseFieldDescriptor (q.2.1 1).2.2.1 = some (.array .int) := by
  intro q hq
  obtain rfl : (RX1, TX1, 7) = q := Option.some.inj hq
  exact ⟨rfl, rfl, by decide +kernel⟩
theorem pg_X1_2 : ∀ q ∈ ya_cl[1]?, (q.2.1 2).2.2.2 = true ∧ q.1 = RX1 ∧ parseFieldDescriptor (q.2.1 2).2.2.1 = some (.array .int) := by
  intro q hq
  obtain rfl : (RX1, TX1, 7) = q := Option.some.inj hq
  exact ⟨rfl, rfl, by decide +kernel⟩
theorem pg_X1_3 : ∀ q ∈ ya_cl[1]?, (q.2.1 3).2.2.2 = true ∧ q.1 = RX1 ∧ parseFieldDescriptor (q.2.1 3).2.2.1 = some (.array .int) := by
  intro q hq
  obtain rfl : (RX1, TX1, 7) = q := Option.some.inj hq
  exact ⟨rfl, rfl, by decide +kernel⟩
theorem pg_X1_4 : ∀ q ∈ ya_cl[1]?, (q.2.1 4).2.2.2 = true ∧ q.1 = RX1 ∧ parseFieldDescriptor (q.2.1 4).2.2.1 = some (.array .int) := by
  intro q hq
  obtain rfl : (RX1, TX1, 7) = q := Option.some.inj hq
  exact ⟨rfl, rfl, by decide +kernel⟩
theorem pg_X1_5 : ∀ q ∈ ya_cl[1]?, (q.2.1 5).2.2.2 = true ∧ q.1 = RX1 ∧ parseFieldDescriptor (q.2.1 5).2.2.1 = some (.array .int) := by
  intro q hq
  obtain rfl : (RX1, TX1, 7) = q := Option.some.inj hq
  exact ⟨rfl, rfl, by decide +kernel⟩
theorem pg_X1_6 : ∀ q ∈ ya_cl[1]?, (q.2.1 6).2.2.2 = true ∧ q.1 = RX1 ∧ parseFieldDescriptor (q.2.1 6).2.2.1 = some (.array .int) := by
  intro q hq
  obtain rfl : (RX1, TX1, 7) = q := Option.some.inj hq
  exact ⟨rfl, rfl, by decide +kernel⟩
theorem pg_X2_5 : ∀ q ∈ ya_cl[2]?, (q.2.1 5).2.2.2 = true ∧ q.1 = RX2 ∧ parseFieldDescriptor (q.2.1 5).2.2.1 = some (.object "YearAgo$Buyers") := by
  intro q hq
  obtain rfl : (RX2, TX2, 6) = q := Option.some.inj hq
  exact ⟨rfl, rfl, by decide +kernel⟩
theorem pg_X3_0 : ∀ q ∈ ya_cl[3]?, (q.2.1 0).2.2.2 = true ∧ q.1 = RX3 ∧ parseFieldDescriptor (q.2.1 0).2.2.1 = some (.object "YearAgo$Market") := by
  intro q hq
  obtain rfl : (RX3, TX3, 6) = q := Option.some.inj hq
  exact ⟨rfl, rfl, by decide +kernel⟩
theorem pg_X3_1 : ∀ q ∈ ya_cl[3]?, (q.2.1 1).2.2.2 = true ∧ q.1 = RX3 ∧ parseFieldDescriptor (q.2.1 1).2.2.1 = some (.object "YearAgo$Tokens") := by
  intro q hq
  obtain rfl : (RX3, TX3, 6) = q := Option.some.inj hq
  exact ⟨rfl, rfl, by decide +kernel⟩
theorem pg_X3_2 : ∀ q ∈ ya_cl[3]?, (q.2.1 2).2.2.2 = true ∧ q.1 = RX3 ∧ parseFieldDescriptor (q.2.1 2).2.2.1 = some (.array .int) := by
  intro q hq
  obtain rfl : (RX3, TX3, 6) = q := Option.some.inj hq
  exact ⟨rfl, rfl, by decide +kernel⟩
theorem pg_X11_1 : ∀ q ∈ ya_cl[11]?, (q.2.1 1).2.2.2 = true ∧ q.1 = RX11 ∧ parseFieldDescriptor (q.2.1 1).2.2.1 = some (.object "YearAgo$Reader") := by
  intro q hq
  obtain rfl : (RX11, TX11, 10) = q := Option.some.inj hq
  exact ⟨rfl, rfl, by decide +kernel⟩
theorem pg_X11_2 : ∀ q ∈ ya_cl[11]?, (q.2.1 2).2.2.2 = true ∧ q.1 = RX11 ∧ parseFieldDescriptor (q.2.1 2).2.2.1 = some (.object "YearAgo$Market") := by
  intro q hq
  obtain rfl : (RX11, TX11, 10) = q := Option.some.inj hq
  exact ⟨rfl, rfl, by decide +kernel⟩
theorem pg_X10_0 : ∀ q ∈ ya_cl[10]?, (q.2.1 0).2.2.2 = true ∧ q.1 = RX10 ∧ parseFieldDescriptor (q.2.1 0).2.2.1 = some (.array .int) := by
  intro q hq
  obtain rfl : (RX10, TX10, 17) = q := Option.some.inj hq
  exact ⟨rfl, rfl, by decide +kernel⟩
theorem pg_X10_1 : ∀ q ∈ ya_cl[10]?, (q.2.1 1).2.2.2 = true ∧ q.1 = RX10 ∧ parseFieldDescriptor (q.2.1 1).2.2.1 = some (.array .int) := by
  intro q hq
  obtain rfl : (RX10, TX10, 17) = q := Option.some.inj hq
  exact ⟨rfl, rfl, by decide +kernel⟩
theorem pg_X10_2 : ∀ q ∈ ya_cl[10]?, (q.2.1 2).2.2.2 = true ∧ q.1 = RX10 ∧ parseFieldDescriptor (q.2.1 2).2.2.1 = some (.array .int) := by
  intro q hq
  obtain rfl : (RX10, TX10, 17) = q := Option.some.inj hq
  exact ⟨rfl, rfl, by decide +kernel⟩
theorem pg_X10_3 : ∀ q ∈ ya_cl[10]?, (q.2.1 3).2.2.2 = true ∧ q.1 = RX10 ∧ parseFieldDescriptor (q.2.1 3).2.2.1 = some (.array .int) := by
  intro q hq
  obtain rfl : (RX10, TX10, 17) = q := Option.some.inj hq
  exact ⟨rfl, rfl, by decide +kernel⟩
theorem pg_X10_4 : ∀ q ∈ ya_cl[10]?, (q.2.1 4).2.2.2 = true ∧ q.1 = RX10 ∧ parseFieldDescriptor (q.2.1 4).2.2.1 = some (.array .int) := by
  intro q hq
  obtain rfl : (RX10, TX10, 17) = q := Option.some.inj hq
  exact ⟨rfl, rfl, by decide +kernel⟩
theorem pg_X10_5 : ∀ q ∈ ya_cl[10]?, (q.2.1 5).2.2.2 = true ∧ q.1 = RX10 ∧ parseFieldDescriptor (q.2.1 5).2.2.1 = some (.array .int) := by
  intro q hq
  obtain rfl : (RX10, TX10, 17) = q := Option.some.inj hq
  exact ⟨rfl, rfl, by decide +kernel⟩
theorem pg_X10_6 : ∀ q ∈ ya_cl[10]?, (q.2.1 6).2.2.2 = true ∧ q.1 = RX10 ∧ parseFieldDescriptor (q.2.1 6).2.2.1 = some (.array .int) := by
  intro q hq
  obtain rfl : (RX10, TX10, 17) = q := Option.some.inj hq
  exact ⟨rfl, rfl, by decide +kernel⟩
theorem pg_X10_7 : ∀ q ∈ ya_cl[10]?, (q.2.1 7).2.2.2 = true ∧ q.1 = RX10 ∧ parseFieldDescriptor (q.2.1 7).2.2.1 = some (.array .int) := by
  intro q hq
  obtain rfl : (RX10, TX10, 17) = q := Option.some.inj hq
  exact ⟨rfl, rfl, by decide +kernel⟩
theorem pg_X10_8 : ∀ q ∈ ya_cl[10]?, (q.2.1 8).2.2.2 = true ∧ q.1 = RX10 ∧ parseFieldDescriptor (q.2.1 8).2.2.1 = some (.array .int) := by
  intro q hq
  obtain rfl : (RX10, TX10, 17) = q := Option.some.inj hq
  exact ⟨rfl, rfl, by decide +kernel⟩
theorem pg_X10_9 : ∀ q ∈ ya_cl[10]?, (q.2.1 9).2.2.2 = true ∧ q.1 = RX10 ∧ parseFieldDescriptor (q.2.1 9).2.2.1 = some (.array .int) := by
  intro q hq
  obtain rfl : (RX10, TX10, 17) = q := Option.some.inj hq
  exact ⟨rfl, rfl, by decide +kernel⟩
theorem pg_X10_10 : ∀ q ∈ ya_cl[10]?, (q.2.1 10).2.2.2 = true ∧ q.1 = RX10 ∧ parseFieldDescriptor (q.2.1 10).2.2.1 = some (.array .int) := by
  intro q hq
  obtain rfl : (RX10, TX10, 17) = q := Option.some.inj hq
  exact ⟨rfl, rfl, by decide +kernel⟩
theorem pg_X10_11 : ∀ q ∈ ya_cl[10]?, (q.2.1 11).2.2.2 = true ∧ q.1 = RX10 ∧ parseFieldDescriptor (q.2.1 11).2.2.1 = some (.array .int) := by
  intro q hq
  obtain rfl : (RX10, TX10, 17) = q := Option.some.inj hq
  exact ⟨rfl, rfl, by decide +kernel⟩
theorem pg_X10_12 : ∀ q ∈ ya_cl[10]?, (q.2.1 12).2.2.2 = true ∧ q.1 = RX10 ∧ parseFieldDescriptor (q.2.1 12).2.2.1 = some (.array .int) := by
  intro q hq
  obtain rfl : (RX10, TX10, 17) = q := Option.some.inj hq
  exact ⟨rfl, rfl, by decide +kernel⟩
theorem pg_X10_13 : ∀ q ∈ ya_cl[10]?, (q.2.1 13).2.2.2 = true ∧ q.1 = RX10 ∧ parseFieldDescriptor (q.2.1 13).2.2.1 = some (.array .int) := by
  intro q hq
  obtain rfl : (RX10, TX10, 17) = q := Option.some.inj hq
  exact ⟨rfl, rfl, by decide +kernel⟩
theorem pg_X11_3 : ∀ q ∈ ya_cl[11]?, (q.2.1 3).2.2.2 = true ∧ q.1 = RX11 ∧ parseFieldDescriptor (q.2.1 3).2.2.1 = some (.object "YearAgo$Year") := by
  intro q hq
  obtain rfl : (RX11, TX11, 10) = q := Option.some.inj hq
  exact ⟨rfl, rfl, by decide +kernel⟩
theorem pg_X11_4 : ∀ q ∈ ya_cl[11]?, (q.2.1 4).2.2.2 = true ∧ q.1 = RX11 ∧ parseFieldDescriptor (q.2.1 4).2.2.1 = some (.object "YearAgo$Year") := by
  intro q hq
  obtain rfl : (RX11, TX11, 10) = q := Option.some.inj hq
  exact ⟨rfl, rfl, by decide +kernel⟩
theorem pg_X5_0 : ∀ q ∈ ya_cl[5]?, (q.2.1 0).2.2.2 = true ∧ q.1 = RX5 ∧ parseFieldDescriptor (q.2.1 0).2.2.1 = some (.array .int) := by
  intro q hq
  obtain rfl : (RX5, TX5, 8) = q := Option.some.inj hq
  exact ⟨rfl, rfl, by decide +kernel⟩
theorem pg_X5_1 : ∀ q ∈ ya_cl[5]?, (q.2.1 1).2.2.2 = true ∧ q.1 = RX5 ∧ parseFieldDescriptor (q.2.1 1).2.2.1 = some (.array .int) := by
  intro q hq
  obtain rfl : (RX5, TX5, 8) = q := Option.some.inj hq
  exact ⟨rfl, rfl, by decide +kernel⟩
theorem pg_X5_2 : ∀ q ∈ ya_cl[5]?, (q.2.1 2).2.2.2 = true ∧ q.1 = RX5 ∧ parseFieldDescriptor (q.2.1 2).2.2.1 = some (.array .int) := by
  intro q hq
  obtain rfl : (RX5, TX5, 8) = q := Option.some.inj hq
  exact ⟨rfl, rfl, by decide +kernel⟩
theorem pg_X5_3 : ∀ q ∈ ya_cl[5]?, (q.2.1 3).2.2.2 = true ∧ q.1 = RX5 ∧ parseFieldDescriptor (q.2.1 3).2.2.1 = some (.array .int) := by
  intro q hq
  obtain rfl : (RX5, TX5, 8) = q := Option.some.inj hq
  exact ⟨rfl, rfl, by decide +kernel⟩
theorem pg_X5_4 : ∀ q ∈ ya_cl[5]?, (q.2.1 4).2.2.2 = true ∧ q.1 = RX5 ∧ parseFieldDescriptor (q.2.1 4).2.2.1 = some (.array .int) := by
  intro q hq
  obtain rfl : (RX5, TX5, 8) = q := Option.some.inj hq
  exact ⟨rfl, rfl, by decide +kernel⟩
theorem pg_X5_5 : ∀ q ∈ ya_cl[5]?, (q.2.1 5).2.2.2 = true ∧ q.1 = RX5 ∧ parseFieldDescriptor (q.2.1 5).2.2.1 = some (.array .int) := by
  intro q hq
  obtain rfl : (RX5, TX5, 8) = q := Option.some.inj hq
  exact ⟨rfl, rfl, by decide +kernel⟩
theorem pg_X11_5 : ∀ q ∈ ya_cl[11]?, (q.2.1 5).2.2.2 = true ∧ q.1 = RX11 ∧ parseFieldDescriptor (q.2.1 5).2.2.1 = some (.object "YearAgo$SellerAlone") := by
  intro q hq
  obtain rfl : (RX11, TX11, 10) = q := Option.some.inj hq
  exact ⟨rfl, rfl, by decide +kernel⟩
theorem pg_X0_0 : ∀ q ∈ ya_cl[0]?, (q.2.1 0).2.2.2 = true ∧ q.1 = RX0 ∧ parseFieldDescriptor (q.2.1 0).2.2.1 = some (.array .int) := by
  intro q hq
  obtain rfl : (RX0, TX0, 1) = q := Option.some.inj hq
  exact ⟨rfl, rfl, by decide +kernel⟩
theorem pg_X11_6 : ∀ q ∈ ya_cl[11]?, (q.2.1 6).2.2.2 = true ∧ q.1 = RX11 ∧ parseFieldDescriptor (q.2.1 6).2.2.1 = some (.object "YearAgo$BuyerAlone") := by
  intro q hq
  obtain rfl : (RX11, TX11, 10) = q := Option.some.inj hq
  exact ⟨rfl, rfl, by decide +kernel⟩
theorem pg_X11_7 : ∀ q ∈ ya_cl[11]?, (q.2.1 7).2.2.2 = true ∧ q.1 = RX11 ∧ parseFieldDescriptor (q.2.1 7).2.2.1 = some (.array (.object "YearAgo$Market")) := by
  intro q hq
  obtain rfl : (RX11, TX11, 10) = q := Option.some.inj hq
  exact ⟨rfl, rfl, by decide +kernel⟩
theorem pg_X11_8 : ∀ q ∈ ya_cl[11]?, (q.2.1 8).2.2.2 = true ∧ q.1 = RX11 ∧ parseFieldDescriptor (q.2.1 8).2.2.1 = some (.array (.object "YearAgo$Row")) := by
  intro q hq
  obtain rfl : (RX11, TX11, 10) = q := Option.some.inj hq
  exact ⟨rfl, rfl, by decide +kernel⟩
theorem pg_X12_1 : ∀ q ∈ ya_cl[12]?, (q.2.1 1).2.2.2 = true ∧ q.1 = RX12 ∧ parseFieldDescriptor (q.2.1 1).2.2.1 = some (.array .int) := by
  intro q hq
  obtain rfl : (RX12, TX12, 35) = q := Option.some.inj hq
  exact ⟨rfl, rfl, by decide +kernel⟩
theorem pg_X12_2 : ∀ q ∈ ya_cl[12]?, (q.2.1 2).2.2.2 = true ∧ q.1 = RX12 ∧ parseFieldDescriptor (q.2.1 2).2.2.1 = some (.array .int) := by
  intro q hq
  obtain rfl : (RX12, TX12, 35) = q := Option.some.inj hq
  exact ⟨rfl, rfl, by decide +kernel⟩
theorem pg_X12_3 : ∀ q ∈ ya_cl[12]?, (q.2.1 3).2.2.2 = true ∧ q.1 = RX12 ∧ parseFieldDescriptor (q.2.1 3).2.2.1 = some (.array .boolean) := by
  intro q hq
  obtain rfl : (RX12, TX12, 35) = q := Option.some.inj hq
  exact ⟨rfl, rfl, by decide +kernel⟩
theorem pg_X12_4 : ∀ q ∈ ya_cl[12]?, (q.2.1 4).2.2.2 = true ∧ q.1 = RX12 ∧ parseFieldDescriptor (q.2.1 4).2.2.1 = some (.array .byte) := by
  intro q hq
  obtain rfl : (RX12, TX12, 35) = q := Option.some.inj hq
  exact ⟨rfl, rfl, by decide +kernel⟩
theorem pg_X12_6 : ∀ q ∈ ya_cl[12]?, (q.2.1 6).2.2.2 = true ∧ q.1 = RX12 ∧ parseFieldDescriptor (q.2.1 6).2.2.1 = some (.array .int) := by
  intro q hq
  obtain rfl : (RX12, TX12, 35) = q := Option.some.inj hq
  exact ⟨rfl, rfl, by decide +kernel⟩
theorem pg_X12_14 : ∀ q ∈ ya_cl[12]?, (q.2.1 14).2.2.2 = true ∧ q.1 = RX12 ∧ parseFieldDescriptor (q.2.1 14).2.2.1 = some (.array .int) := by
  intro q hq
  obtain rfl : (RX12, TX12, 35) = q := Option.some.inj hq
  exact ⟨rfl, rfl, by decide +kernel⟩
theorem pg_X12_15 : ∀ q ∈ ya_cl[12]?, (q.2.1 15).2.2.2 = true ∧ q.1 = RX12 ∧ parseFieldDescriptor (q.2.1 15).2.2.1 = some (.array .int) := by
  intro q hq
  obtain rfl : (RX12, TX12, 35) = q := Option.some.inj hq
  exact ⟨rfl, rfl, by decide +kernel⟩
theorem pg_X12_16 : ∀ q ∈ ya_cl[12]?, (q.2.1 16).2.2.2 = true ∧ q.1 = RX12 ∧ parseFieldDescriptor (q.2.1 16).2.2.1 = some (.array .int) := by
  intro q hq
  obtain rfl : (RX12, TX12, 35) = q := Option.some.inj hq
  exact ⟨rfl, rfl, by decide +kernel⟩
theorem pg_X12_17 : ∀ q ∈ ya_cl[12]?, (q.2.1 17).2.2.2 = true ∧ q.1 = RX12 ∧ parseFieldDescriptor (q.2.1 17).2.2.1 = some (.array .int) := by
  intro q hq
  obtain rfl : (RX12, TX12, 35) = q := Option.some.inj hq
  exact ⟨rfl, rfl, by decide +kernel⟩
theorem pg_X12_18 : ∀ q ∈ ya_cl[12]?, (q.2.1 18).2.2.2 = true ∧ q.1 = RX12 ∧ parseFieldDescriptor (q.2.1 18).2.2.1 = some (.array .int) := by
  intro q hq
  obtain rfl : (RX12, TX12, 35) = q := Option.some.inj hq
  exact ⟨rfl, rfl, by decide +kernel⟩
theorem pg_X12_19 : ∀ q ∈ ya_cl[12]?, (q.2.1 19).2.2.2 = true ∧ q.1 = RX12 ∧ parseFieldDescriptor (q.2.1 19).2.2.1 = some (.array .int) := by
  intro q hq
  obtain rfl : (RX12, TX12, 35) = q := Option.some.inj hq
  exact ⟨rfl, rfl, by decide +kernel⟩
theorem pg_X12_20 : ∀ q ∈ ya_cl[12]?, (q.2.1 20).2.2.2 = true ∧ q.1 = RX12 ∧ parseFieldDescriptor (q.2.1 20).2.2.1 = some (.array .int) := by
  intro q hq
  obtain rfl : (RX12, TX12, 35) = q := Option.some.inj hq
  exact ⟨rfl, rfl, by decide +kernel⟩
theorem pg_X12_21 : ∀ q ∈ ya_cl[12]?, (q.2.1 21).2.2.2 = true ∧ q.1 = RX12 ∧ parseFieldDescriptor (q.2.1 21).2.2.1 = some (.array .int) := by
  intro q hq
  obtain rfl : (RX12, TX12, 35) = q := Option.some.inj hq
  exact ⟨rfl, rfl, by decide +kernel⟩
theorem pg_X12_22 : ∀ q ∈ ya_cl[12]?, (q.2.1 22).2.2.2 = true ∧ q.1 = RX12 ∧ parseFieldDescriptor (q.2.1 22).2.2.1 = some (.array .int) := by
  intro q hq
  obtain rfl : (RX12, TX12, 35) = q := Option.some.inj hq
  exact ⟨rfl, rfl, by decide +kernel⟩
theorem pg_X12_23 : ∀ q ∈ ya_cl[12]?, (q.2.1 23).2.2.2 = true ∧ q.1 = RX12 ∧ parseFieldDescriptor (q.2.1 23).2.2.1 = some (.array .int) := by
  intro q hq
  obtain rfl : (RX12, TX12, 35) = q := Option.some.inj hq
  exact ⟨rfl, rfl, by decide +kernel⟩
theorem pg_X12_24 : ∀ q ∈ ya_cl[12]?, (q.2.1 24).2.2.2 = true ∧ q.1 = RX12 ∧ parseFieldDescriptor (q.2.1 24).2.2.1 = some (.array .int) := by
  intro q hq
  obtain rfl : (RX12, TX12, 35) = q := Option.some.inj hq
  exact ⟨rfl, rfl, by decide +kernel⟩
theorem pg_X12_25 : ∀ q ∈ ya_cl[12]?, (q.2.1 25).2.2.2 = true ∧ q.1 = RX12 ∧ parseFieldDescriptor (q.2.1 25).2.2.1 = some (.array .int) := by
  intro q hq
  obtain rfl : (RX12, TX12, 35) = q := Option.some.inj hq
  exact ⟨rfl, rfl, by decide +kernel⟩
theorem pg_X12_26 : ∀ q ∈ ya_cl[12]?, (q.2.1 26).2.2.2 = true ∧ q.1 = RX12 ∧ parseFieldDescriptor (q.2.1 26).2.2.1 = some (.array .int) := by
  intro q hq
  obtain rfl : (RX12, TX12, 35) = q := Option.some.inj hq
  exact ⟨rfl, rfl, by decide +kernel⟩
theorem pg_X12_29 : ∀ q ∈ ya_cl[12]?, (q.2.1 29).2.2.2 = true ∧ q.1 = RX12 ∧ parseFieldDescriptor (q.2.1 29).2.2.1 = some (.array .int) := by
  intro q hq
  obtain rfl : (RX12, TX12, 35) = q := Option.some.inj hq
  exact ⟨rfl, rfl, by decide +kernel⟩
theorem pg_X12_30 : ∀ q ∈ ya_cl[12]?, (q.2.1 30).2.2.2 = true ∧ q.1 = RX12 ∧ parseFieldDescriptor (q.2.1 30).2.2.1 = some (.array .int) := by
  intro q hq
  obtain rfl : (RX12, TX12, 35) = q := Option.some.inj hq
  exact ⟨rfl, rfl, by decide +kernel⟩
theorem pg_X12_31 : ∀ q ∈ ya_cl[12]?, (q.2.1 31).2.2.2 = true ∧ q.1 = RX12 ∧ parseFieldDescriptor (q.2.1 31).2.2.1 = some (.array .int) := by
  intro q hq
  obtain rfl : (RX12, TX12, 35) = q := Option.some.inj hq
  exact ⟨rfl, rfl, by decide +kernel⟩
theorem pg_X12_32 : ∀ q ∈ ya_cl[12]?, (q.2.1 32).2.2.2 = true ∧ q.1 = RX12 ∧ parseFieldDescriptor (q.2.1 32).2.2.1 = some (.array .int) := by
  intro q hq
  obtain rfl : (RX12, TX12, 35) = q := Option.some.inj hq
  exact ⟨rfl, rfl, by decide +kernel⟩
theorem pg_X12_33 : ∀ q ∈ ya_cl[12]?, (q.2.1 33).2.2.2 = true ∧ q.1 = RX12 ∧ parseFieldDescriptor (q.2.1 33).2.2.1 = some (.array .long) := by
  intro q hq
  obtain rfl : (RX12, TX12, 35) = q := Option.some.inj hq
  exact ⟨rfl, rfl, by decide +kernel⟩
theorem pg_X12_34 : ∀ q ∈ ya_cl[12]?, (q.2.1 34).2.2.2 = true ∧ q.1 = RX12 ∧ parseFieldDescriptor (q.2.1 34).2.2.1 = some (.array .long) := by
  intro q hq
  obtain rfl : (RX12, TX12, 35) = q := Option.some.inj hq
  exact ⟨rfl, rfl, by decide +kernel⟩
theorem pg_X4_0 : ∀ q ∈ ya_cl[4]?, (q.2.1 0).2.2.2 = true ∧ q.1 = RX4 ∧ parseFieldDescriptor (q.2.1 0).2.2.1 = some (.array .long) := by
  intro q hq
  obtain rfl : (RX4, TX4, 3) = q := Option.some.inj hq
  exact ⟨rfl, rfl, by decide +kernel⟩
theorem ya_callINv {X : ya_X} {Y : ya_Y} {Γ : ya_Γ} {pc : Nat} {L : List (Nat × Value)} {S : List Value} {G G' : ya_G} {d d' : ya_D} {k n : Nat} {y : MethodName} {Yc : ya_Y} {a i np : Nat} {As S0 : List Value} {host : String} (hct : ya_Ct X y Yc (.ref (X.2.1 + a) :: As) G d (none, G', d')) (hm : ya_mI y Yc np) (j : Nat) (hj : ya_nest[j]? = some (Y.2.1, i, y, host)) (hn : As.length = np) (hfit : ya_fit Y Yc) (hcat : (S.map fun v => v.category).sum ≤ 8)
    (hf : k + Yc.2.2.2.2.2.cells ≤ Y.2.2.2.2.2.cells ∧ n + Yc.2.2.2.2.2.slots ≤ Y.2.2.2.2.2.slots) (hG : G'.1 = G.1 + Yc.2.2.2.2.2.cells) (hd : decode Y.1 pc = .ok (.invokespecial i, 3)) (hst : S0 = As.reverse ++ .ref (X.2.1 + a) :: S)
    (kk : ya_E X Y Γ (pc + 3) L S G' d' (k + Yc.2.2.2.2.2.cells) (n + Yc.2.2.2.2.2.slots)) : ya_E X Y Γ pc L S0 G d k n := ya_callIN hct hm j hj hn hfit hcat hf hG hd hst kk
theorem ya_dvX4 (b : Nat) : ∀ j, j < 3 → defaultValue (tyX4 j) = vp_V (ya_fl b (fun _ => none) (fun _ => 0) (fun _ => 0) (ya_ft 4) 0) j
  | 0, _ => rfl
  | 1, _ => rfl
  | 2, _ => rfl
  | n + 3, h => absurd h (by omega)
theorem mk_X11_58 : ya_mk RX11 58 4 3 := ⟨RX4, TX4, tyX4, rfl, inX4, tyX4_ok, (ya_in 478 (by decide +kernel) (by decide +kernel)), (ya_in 1202 (by decide +kernel) (by decide +kernel)), (ya_in 124 (by decide +kernel) (by decide +kernel)), by decide, fun b j hj => by
  revert hj
  exact ya_dvX4 b j⟩
