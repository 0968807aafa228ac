/-! THE CORE: a world by three memories (numbers, longs, links) and shapes; E: from a frame of a method, the machine comes to its goal -/
abbrev ya_D : Type := (Nat → Nat → Int32) × (Nat → Nat → Int64)
abbrev ya_G : Type := Nat × (Nat → Nat × Nat) × (Nat → Nat → Option Nat)
/-- launch, base, class numbers, slots, array classes, script (cell, length, ints), strings (cells, their bytes' cells), the static row's cell -/
abbrev ya_X : Type := Launch × Nat × (Nat → ClassId) × (Nat → Nat → Nat) × (Nat → ClassId) × (Nat × Nat × (Nat → Int32)) × (Nat → Nat) × (Nat → Nat) × Nat
/-- code, class, locals, answer's type, name, room -/
abbrev ya_Y : Type := ByteArray × String × Nat × Option FieldType × String × Room
abbrev ya_r : Type := Option Value × ya_G × ya_D
def ya_bI (b : Bool) : Int32 := if b then 1 else 0
def ya_sI (d : ya_D) (a k : Nat) (v : Int32) : ya_D := (fun a' k' => if a' = a ∧ k' = k then v else d.1 a' k', d.2)
def ya_sL (d : ya_D) (a k : Nat) (v : Int64) : ya_D := (d.1, fun a' k' => if a' = a ∧ k' = k then v else d.2 a' k')
def ya_sR (G : ya_G) (a k : Nat) (v : Option Nat) : ya_G := (G.1, G.2.1, fun a' k' => if a' = a ∧ k' = k then v else G.2.2 a' k')
/-- a new cell of a shape -/
def ya_nG (G : ya_G) (z : Nat × Nat) : ya_G := (G.1 + 1, (fun a => if a = G.1 then z else G.2.1 a), fun a k => if a = G.1 then none else G.2.2 a k)
def ya_nD (G : ya_G) (d : ya_D) : ya_D := ((fun a k => if a = G.1 then 0 else d.1 a k), fun a k => if a = G.1 then 0 else d.2 a k)
def ya_fl (b : Nat) (r : Nat → Option Nat) (i : Nat → Int32) (j : Nat → Int64) : List Nat → Nat → List Value
  | [], _ => []
  | t :: ts, k => (if t = 0 then .int (i k) else if t = 1 then .long (j k) else va_rf ((r k).map (fun q => b + q))) :: ya_fl b r i j ts (k + 1)
def ya_e (X : ya_X) (G : ya_G) (d : ya_D) (a : Nat) : va_E :=
  if (G.2.1 a).1 < 20 then .inr ((G.2.1 a).1, ya_fl X.2.1 (G.2.2 a) (d.1 a) (d.2 a) (ya_ft (G.2.1 a).1) 0)
  else .inl (X.2.2.2.2.1 (G.2.1 a).1, (G.2.1 a).2, if (G.2.1 a).1 < 24 then .inl (d.1 a) else if (G.2.1 a).1 = 24 then .inr (.inl (d.2 a)) else .inr (.inr (.inr (.inr (fun j => (G.2.2 a j).map (fun q => X.2.1 + q))))))
def ya_w (X : ya_X) (G : ya_G) (d : ya_D) : va_W := (List.range G.1).map (fun a => (X.2.1 + a, ya_e X G d a))
def ya_A (X : ya_X) : Nat → Prop := fun q => X.2.1 ≤ q
/-- the types of arrays by their kinds -/
def ya_at (k : Nat) : FieldType := if k = 20 then .int else if k = 21 then .byte else if k = 22 then .boolean else if k = 23 then .char else if k = 24 then .long else if k = 25 then .object "YearAgo$Market" else .object "YearAgo$Row"
def ya_ty (X : ya_X) : List (ClassId × FieldType) := (List.range 7).map (fun k => (X.2.2.2.2.1 (20 + k), ya_at (20 + k)))
/-- what nobody writes: the script, the text constants, the static row -/
def ya_R (X : ya_X) (s : State) : Prop := va_T .int X.2.2.2.2.2.1.1 X.2.2.2.2.2.1.2.1 (fun j => .int (X.2.2.2.2.2.1.2.2 j)) (ya_A X) s s.heap ∧
  vk_S ya_kN ya_klen ya_kbyt X.2.2.2.2.2.2.1 X.2.2.2.2.2.2.2.1 (ya_A X) s s.heap ∧
  (∀ (k : Nat) (q : String × Nat × String × Nat), ya_kref[k]? = some q → vk_R q.1 q.2.1 q.2.2.1 (X.2.2.2.2.2.2.1 q.2.2.2) s) ∧
  va_Z "YearAgo" "FACTORIAL" "[I" (.ref X.2.2.2.2.2.2.2.2) (ya_A X) s s.heap ∧ va_T .int X.2.2.2.2.2.2.2.2 8 (fun j => .int (ya_fact j)) (ya_A X) s s.heap ∧
  va_Z "java/lang/String" "COMPACT_STRINGS" "Z" (.int 1) (ya_A X) s s.heap ∧
  (∀ (k : Nat) (q : String × Nat × MethodName × String), ya_nest[k]? = some q → va_Nw (.methodLinkNest q.1 q.2.1 q.2.2.1 q.2.2.2) s) ∧
  (va_AO "YearAgo$Market" s ∧ va_AO "YearAgo$Row" s) ∧
  va_Zq "jdk/internal/util/Preconditions" "SIOOBE_FORMATTER" "Ljava/util/function/BiFunction;" (ya_A X) s s.heap
def ya_C (X : ya_X) (Y : ya_Y) (p : Program) (s : State) (m : MethodId) (args : Array Value) (meth : Method) (c : Code) : Prop :=
  p.tables.exec = Jvm.exec ∧ c.code = Y.1 ∧ c.maxLocals = Y.2.2.1 ∧ s.vm.findClass Y.2.1 = some m.cls ∧ (∀ w ∈ lw_g, w.before args s = true) ∧ va_K (X.2.2.1, X.2.2.2.1) ya_cl (ya_ty X) s ∧
  meth.sig.returnType = Y.2.2.2.1 ∧ meth.locks = false ∧ meth.name = Y.2.2.2.2.1 ∧ ya_R X s ∧ X.2.1 ≤ s.heap.size
def ya_H (X : ya_X) (G : ya_G) (d : ya_D) (k : Nat) (s : State) (H : Heap) (locs : List Loc) : Prop :=
  va_P (X.2.2.1, X.2.2.2.1) ya_cl (ya_w X G d) H ∧ va_S (ya_A X) s.heap H locs ∧ s.heap.size + k = X.2.1 + G.1
def ya_Γ : Type := List Frame → Array Value → State → State → Prop
def ya_E (X : ya_X) (Y : ya_Y) (Γ : ya_Γ) (pc : Nat) (L : List (Nat × Value)) (S : List Value) (G : ya_G) (d : ya_D) (k n : Nat) : Prop :=
  ∀ (p : Program) (e : Env) (s : State) (m : MethodId) (args : Array Value) (below : List Frame) (meth : Method) (c : Code) (H : Heap) (locs : List Loc) (ls : Array Slot),
    ya_C X Y p s m args meth c → ya_H X G d k s H locs → lv_has ls Y.2.2.1 L → W p X.1 e Y.2.2.2.2.2 s m args below meth c H locs k n (Γ below args s) (F0 m pc ls S)
/-- a method's end -/
def ya_Q (X : ya_X) (r : ya_r) : Array Value → State → Outcome → State → Prop := fun _ st oc t =>
  oc = .returned r.1 ∧ va_P (X.2.2.1, X.2.2.2.1) ya_cl (ya_w X r.2.1 r.2.2) t.heap ∧ t.heap.size = X.2.1 + r.2.1.1 ∧ va_F (ya_A X) st t
def ya_M (X : ya_X) (r : ya_r) (mc ms : Nat) : ya_Γ := fun below args s => MQ below (ya_Q X r) args s mc ms (ya_A X)
/-- what a method begins with -/
def ya_P (X : ya_X) (G : ya_G) (d : ya_D) (U : State) : Prop :=
  va_P (X.2.2.1, X.2.2.2.1) ya_cl (ya_w X G d) U.heap ∧ U.heap.size = X.2.1 + G.1 ∧ va_K (X.2.2.1, X.2.2.2.1) ya_cl (ya_ty X) U ∧ ya_R X U
/-- a method's contract -/
def ya_Ct (X : ya_X) (y : MethodName) (Y : ya_Y) (args : List Value) (G : ya_G) (d : ya_D) (r : ya_r) : Prop :=
  Met X.1 y (Cond.code y Y.1 Y.2.2.1 Y.2.2.2.1 :: lw_g) Y.2.2.2.2.2 (va_Pc args (ya_P X G d)) (ya_Q X r) Y.2.2.2.2.2.cells Y.2.2.2.2.2.slots (ya_A X)
theorem ya_in {w : Cond} (i : Nat) (h : lw_tbl[i]? = some w) (g : goodWord w = true) : w ∈ lw_g := List.mem_filter.mpr ⟨List.mem_of_getElem? h, g⟩
theorem ya_ins (ws : List Cond) (ps : List Nat) (hp : ws = ps.filterMap (fun i => lw_tbl[i]?)) (hg : ws.all goodWord = true) : ∀ w ∈ ws, w ∈ lw_g := by
  intro w hw
  refine List.mem_filter.mpr ⟨?_, List.all_eq_true.mp hg w hw⟩
  rw [hp] at hw
  obtain ⟨i, -, hi⟩ := List.mem_filterMap.mp hw
  exact List.mem_of_getElem? hi
theorem ya_goodIn {y : MethodName} {b : ByteArray} {n : Nat} {t : Option FieldType} (h : Cond.code y b n t ∈ lw_g) : GoodIn lw_g (Cond.code y b n t :: lw_g) := by
  have hg : ∀ w ∈ lw_g, w ∈ lw_g ∧ ((w.onTables && w.keeps) = true ∨ ∃ ty, w = .arrayClass ty) := fun w hw => ⟨hw, good_of_word (List.mem_filter.mp hw).2⟩
  intro w hw
  rcases List.mem_cons.mp hw with rfl | hw
  · exact hg _ h
  · exact hg _ hw
theorem ya_fl_at {b : Nat} {r : Nat → Option Nat} {i : Nat → Int32} {j : Nat → Int64} : ∀ (ts : List Nat) (k0 k t : Nat), ts[k]? = some t → (ya_fl b r i j ts k0)[k]? = some (if t = 0 then .int (i (k0 + k)) else if t = 1 then .long (j (k0 + k)) else va_rf ((r (k0 + k)).map (fun q => b + q)))
  | [], _, _, _, h => by simp at h
  | t0 :: ts, k0, 0, t, h => by
    simp at h
    subst h
    rfl
  | t0 :: ts, k0, k + 1, t, h => by
    simp only [List.getElem?_cons_succ] at h
    have := ya_fl_at (b := b) (r := r) (i := i) (j := j) ts (k0 + 1) k t h
    simp only [ya_fl, List.getElem?_cons_succ, this]
    rw [show k0 + 1 + k = k0 + (k + 1) by omega]
theorem ya_fl_len {b : Nat} {r : Nat → Option Nat} {i : Nat → Int32} {j : Nat → Int64} : ∀ (ts : List Nat) (k0 : Nat), (ya_fl b r i j ts k0).length = ts.length
  | [], _ => rfl
  | _ :: ts, k0 => by simp [ya_fl, ya_fl_len ts (k0 + 1)]
theorem ya_fl_set {b : Nat} {r r' : Nat → Option Nat} {i i' : Nat → Int32} {j j' : Nat → Int64} {v : Value} : ∀ (ts : List Nat) (k0 k t : Nat), ts[k]? = some t → (∀ q, q ≠ k0 + k → r' q = r q ∧ i' q = i q ∧ j' q = j q) → (if t = 0 then Value.int (i' (k0 + k)) else if t = 1 then .long (j' (k0 + k)) else va_rf ((r' (k0 + k)).map (fun q => b + q))) = v →
    (ya_fl b r i j ts k0).set k v = ya_fl b r' i' j' ts k0
  | [], _, _, _, h, _, _ => by simp at h
  | t0 :: ts, k0, 0, t, h, he, hv => by
    simp at h
    subst h
    have hrec : ∀ (us : List Nat) (m : Nat), k0 < m → ya_fl b r i j us m = ya_fl b r' i' j' us m := by
      intro us
      induction us with
      | nil => intro m _; rfl
      | cons u us ih =>
        intro m hm
        obtain ⟨h1, h2, h3⟩ := he m (by omega)
        simp only [ya_fl, h1, h2, h3, ih (m + 1) (by omega)]
    simp only [ya_fl, List.set_cons_zero, hrec ts (k0 + 1) (by omega)]
    rw [← hv]
    rfl
  | t0 :: ts, k0, k + 1, t, h, he, hv => by
    simp only [List.getElem?_cons_succ] at h
    obtain ⟨h1, h2, h3⟩ := he k0 (by omega)
    have := ya_fl_set (b := b) (r := r) (r' := r') (i := i) (i' := i') (j := j) (j' := j') (v := v) ts (k0 + 1) k t h (fun q hq => he q (by omega)) (by rw [show k0 + 1 + k = k0 + (k + 1) by omega]; exact hv)
    simp only [ya_fl, List.set_cons_succ, this, h1, h2, h3]
theorem ya_w_at {X : ya_X} {G : ya_G} {d : ya_D} {a : Nat} (h : a < G.1) : (ya_w X G d)[a]? = some (X.2.1 + a, ya_e X G d a) := by
  simp [ya_w, List.getElem?_map, List.getElem?_range h]
theorem ya_w_D {X : ya_X} {G : ya_G} {d : ya_D} : va_D (ya_A X) (ya_w X G d) := by
  have key : ∀ (i : Nat) (p : Nat × va_E), (ya_w X G d)[i]? = some p → p.1 = X.2.1 + i := by
    intro i p hp
    have hi : i < G.1 := by
      have := (List.getElem?_eq_some_iff.mp hp).1
      simpa [ya_w] using this
    rw [ya_w_at hi] at hp
    cases hp
    rfl
  refine ⟨fun i j p q hp hq h => ?_, fun k q hq => ?_⟩
  · rw [key i p hp, key j q hq] at h
    omega
  · show X.2.1 ≤ q.1
    rw [key k q hq]
    omega
theorem ya_w_set {X : ya_X} {G G' : ya_G} {d d' : ya_D} {a : Nat} {e : va_E} (hN : G'.1 = G.1) (he : ya_e X G' d' a = e) (ho : ∀ b, b ≠ a → ya_e X G' d' b = ya_e X G d b) : (ya_w X G d).set a (X.2.1 + a, e) = ya_w X G' d' := by
  refine List.ext_getElem? fun k => ?_
  by_cases hk : k < G.1
  · rw [ya_w_at (G := G') (by omega)]
    by_cases hka : k = a
    · subst hka
      rw [List.getElem?_set_self (by simpa [ya_w] using hk), he]
    · rw [List.getElem?_set_ne (Ne.symm hka), ya_w_at hk, ho k hka]
  · rw [List.getElem?_eq_none (by simp [ya_w]; omega), List.getElem?_eq_none (by simp [ya_w]; omega)]
theorem ya_w_push {X : ya_X} {G G' : ya_G} {d d' : ya_D} {e : va_E} (hN : G'.1 = G.1 + 1) (he : ya_e X G' d' G.1 = e) (ho : ∀ b, b < G.1 → ya_e X G' d' b = ya_e X G d b) : ya_w X G d ++ [(X.2.1 + G.1, e)] = ya_w X G' d' := by
  refine List.ext_getElem? fun k => ?_
  have hlen : (ya_w X G d).length = G.1 := by simp [ya_w]
  rcases Nat.lt_trichotomy k G.1 with hk | hk | hk
  · rw [List.getElem?_append_left (by omega), ya_w_at hk, ya_w_at (G := G') (by omega), ho k hk]
  · subst hk
    rw [List.getElem?_append_right (by omega), hlen, ya_w_at (G := G') (by omega), he]
    simp
  · rw [List.getElem?_eq_none (by simp [hlen]; omega), List.getElem?_eq_none (by simp [ya_w]; omega)]
theorem ya_tyat {X : ya_X} {k : Nat} (h0 : 20 ≤ k) (h1 : k < 27) : (ya_ty X)[k - 20]? = some (X.2.2.2.2.1 k, ya_at k) := by
  obtain ⟨j, rfl⟩ : ∃ j, k = 20 + j := ⟨k - 20, by omega⟩
  simp [ya_ty, List.getElem?_map, List.getElem?_range (show j < 7 by omega)]
theorem ya_R.next {X : ya_X} {s U : State} {H : Heap} {locs : List Loc} (h : ya_R X s) (hS : va_S (ya_A X) s.heap H locs) (hU : U.heap = H) (hW : s.WarmedH U.vm) : ya_R X U := by
  obtain ⟨h1, h2, h3, h4, h5, h6, h7, h8, h9⟩ := h
  have hk := hS.2.1
  rw [← hU] at hk
  exact ⟨(h1.moved hW.alike).kept hk, (h2.moved hW.alike).kept hk, fun k q hq => (h3 k q hq).warm hW, (h4.moved hW.alike).kept hk, (h5.moved hW.alike).kept hk, (h6.moved hW.alike).kept hk, fun k q hq => va_Nw.warmM hW (h7 k q hq), ⟨h8.1.moved hW.alike, h8.2.moved hW.alike⟩, (h9.moved hW.alike).kept hk⟩
theorem ya_R.calling {X : ya_X} {U : State} {g : JFrame} {mk : MethodId} {a : Array Value} (h : ya_R X U) : ya_R X (U.calling g mk a) := by
  obtain ⟨h1, h2, h3, h4, h5, h6, h7, h8, h9⟩ := h
  have hv : (U.calling g mk a).vm = U.vm := rfl
  have hA : U.vm.Alike (U.calling g mk a).vm := Vm.Alike.refl U.vm
  exact ⟨h1.moved hA, h2.moved hA, fun k q hq => vk_R.same hv (h3 k q hq), h4.moved hA, h5.moved hA, h6.moved hA, fun k q hq => va_Nw.same rfl hv.symm (h7 k q hq), ⟨h8.1.moved hA, h8.2.moved hA⟩, h9.moved hA⟩
theorem ya_size {X : ya_X} {G : ya_G} {d : ya_D} {k : Nat} {s : State} {H : Heap} {locs : List Loc} (h : ya_H X G d k s H locs) (hb : X.2.1 ≤ s.heap.size) {T : State} (hT : T.heap = H) (hz : T.heap.size ≤ s.heap.size + k) : H.size = X.2.1 + G.1 := by
  obtain ⟨hP, hS, hk⟩ := h
  rw [hT] at hz
  by_cases h0 : G.1 = 0
  · have := hS.1
    omega
  · have := (hP (G.1 - 1) _ (ya_w_at (by omega))).lt
    simp only at this
    omega
