/-! FIELDS, ARRAYS, NEW over ya_E -/
def ya_rI (d : ya_D) (a n : Nat) (i : Int32) : Option Int32 := if i < 0 ∨ n ≤ i.toNatClampNeg then none else some (d.1 a i.toNatClampNeg)
def ya_rL (d : ya_D) (a n : Nat) (i : Int32) : Option Int64 := if i < 0 ∨ n ≤ i.toNatClampNeg then none else some (d.2 a i.toNatClampNeg)
def ya_wI (d : ya_D) (a n : Nat) (i v : Int32) : Option ya_D := if i < 0 ∨ n ≤ i.toNatClampNeg then none else some (ya_sI d a i.toNatClampNeg v)
def ya_wL (d : ya_D) (a n : Nat) (i : Int32) (v : Int64) : Option ya_D := if i < 0 ∨ n ≤ i.toNatClampNeg then none else some (ya_sL d a i.toNatClampNeg v)
theorem ya_rI_s {d : ya_D} {a n : Nat} {i x : Int32} (h : ya_rI d a n i = some x) : vp_in i n ∧ x = d.1 a i.toNatClampNeg := by
  unfold ya_rI at h
  split at h
  · cases h
  · exact ⟨‹_›, (Option.some.inj h).symm⟩
theorem ya_rL_s {d : ya_D} {a n : Nat} {i : Int32} {x : Int64} (h : ya_rL d a n i = some x) : vp_in i n ∧ x = d.2 a i.toNatClampNeg := by
  unfold ya_rL at h
  split at h
  · cases h
  · exact ⟨‹_›, (Option.some.inj h).symm⟩
theorem ya_wI_s {d d' : ya_D} {a n : Nat} {i v : Int32} (h : ya_wI d a n i v = some d') : vp_in i n ∧ d' = ya_sI d a i.toNatClampNeg v := by
  unfold ya_wI at h
  split at h
  · cases h
  · exact ⟨‹_›, (Option.some.inj h).symm⟩
theorem ya_wL_s {d d' : ya_D} {a n : Nat} {i : Int32} {v : Int64} (h : ya_wL d a n i v = some d') : vp_in i n ∧ d' = ya_sL d a i.toNatClampNeg v := by
  unfold ya_wL at h
  split at h
  · cases h
  · exact ⟨‹_›, (Option.some.inj h).symm⟩
/-- a bind that gives something: what it takes, what it gives -/
theorem ya_ob {α β : Type} {o : Option α} {f : α → Option β} {r : β} (h : o.bind f = some r) : ∃ x, o = some x ∧ f x = some r := by
  cases o with
  | none => cases h
  | some x => exact ⟨x, rfl, h⟩
/-- a class's field as an instruction of a class names it -/
def ya_fo (own : String) (idx ci k t : Nat) : Prop := ∃ (C : String) (T : u_T) (N : Nat) (ty : Nat → FieldType), ya_cl[ci]? = some (C, T, N) ∧ (∀ w ∈ u_ws C T N, w ∈ lw_g) ∧ (∀ k, k < N → parseFieldDescriptor (T k).2.2.1 = some (ty k)) ∧ (∀ a, a < N → ∀ b, b < N → a ≠ b → (T a).2.1 ≠ (T b).2.1) ∧ k < N ∧ (T k).1 = C ∧ Cond.fieldLink own idx C (T k).2.1 (T k).2.2.1 ∈ lw_g ∧ (ya_ft ci)[k]? = some t ∧ ci < 20 ∧ (ya_ft ci).length = N
section
variable {X : ya_X} {Y : ya_Y} {Γ : ya_Γ} {pc : Nat} {L : List (Nat × Value)} {S : List Value} {G : ya_G} {d : ya_D} {k n : Nat}
theorem ya_e_o {a ci : Nat} (hs : (G.2.1 a).1 = ci) (hci : ci < 20) : ya_e X G d a = .inr (ci, ya_fl X.2.1 (G.2.2 a) (d.1 a) (d.2 a) (ya_ft ci) 0) := by simp [ya_e, hs, hci]
theorem ya_e_i {a ka na : Nat} (hs : G.2.1 a = (ka, na)) (h0 : 20 ≤ ka) (h1 : ka < 24) : ya_e X G d a = .inl (X.2.2.2.2.1 ka, na, .inl (d.1 a)) := by simp [ya_e, hs, h1, show ¬ ka < 20 by omega]
theorem ya_e_l {a na : Nat} (hs : G.2.1 a = (24, na)) : ya_e X G d a = .inl (X.2.2.2.2.1 24, na, .inr (.inl (d.2 a))) := by simp [ya_e, hs]
theorem ya_e_q {a ka na : Nat} (hs : G.2.1 a = (ka, na)) (h0 : 24 < ka) : ya_e X G d a = .inl (X.2.2.2.2.1 ka, na, .inr (.inr (.inr (.inr (fun j => (G.2.2 a j).map (fun q => X.2.1 + q)))))) := by simp [ya_e, hs, show ¬ ka < 20 by omega, show ¬ ka < 24 by omega, show ¬ ka = 24 by omega]
theorem ya_getV {a idx ci f t : Nat} {v : Value} (hf : ya_fo Y.2.1 idx ci f t) (hs : (G.2.1 a).1 = ci) (ha : a < G.1) (hv : (if t = 0 then Value.int (d.1 a f) else if t = 1 then .long (d.2 a f) else va_rf ((G.2.2 a f).map (fun q => X.2.1 + q))) = v) (hd : decode Y.1 pc = .ok (.getfield idx, 3))
    (kk : ya_E X Y Γ (pc + 3) L (v :: S) G d k n) : ya_E X Y Γ pc L (.ref (X.2.1 + a) :: S) G d k n := by
  intro p e s m args below meth c H locs ls hC hH hl
  obtain ⟨C, T, N, ty, h1, h2, h3, h4, h5, h6, h7, h8, h9, h10⟩ := hf
  have hat := ya_fl_at (b := X.2.1) (r := G.2.2 a) (i := d.1 a) (j := d.2 a) (ya_ft ci) 0 f t h8
  rw [Nat.zero_add, hv] at hat
  refine va_get (D := (X.2.2.1, X.2.2.2.1)) (ci := ci) (v := v) (C := C) (T := T) (N := N) (ref := C) hC.1 hC.2.1 hC.2.2.2.2.1 h2 hC.2.2.2.1 hC.2.2.2.2.2.1 hH.1 a (by rw [ya_w_at ha, ya_e_o hs h9]) h1 f h5 (hC.2.2.2.2.1 _ h7) ?_ hat hd (kk p e s m args below meth c H locs ls hC hH hl)
  intro x hx
  rw [h6] at hx
  exact hx
theorem ya_getI {a idx ci f : Nat} (hf : ya_fo Y.2.1 idx ci f 0) (hs : (G.2.1 a).1 = ci) (ha : a < G.1) (hd : decode Y.1 pc = .ok (.getfield idx, 3))
    (kk : ya_E X Y Γ (pc + 3) L (.int (d.1 a f) :: S) G d k n) : ya_E X Y Γ pc L (.ref (X.2.1 + a) :: S) G d k n := ya_getV hf hs ha rfl hd kk
theorem ya_getL {a idx ci f : Nat} (hf : ya_fo Y.2.1 idx ci f 1) (hs : (G.2.1 a).1 = ci) (ha : a < G.1) (hd : decode Y.1 pc = .ok (.getfield idx, 3))
    (kk : ya_E X Y Γ (pc + 3) L (.long (d.2 a f) :: S) G d k n) : ya_E X Y Γ pc L (.ref (X.2.1 + a) :: S) G d k n := ya_getV hf hs ha rfl hd kk
theorem ya_getR {a idx ci f q : Nat} (hf : ya_fo Y.2.1 idx ci f 2) (hs : (G.2.1 a).1 = ci) (ha : a < G.1) (hq : G.2.2 a f = some q) (hd : decode Y.1 pc = .ok (.getfield idx, 3))
    (kk : ya_E X Y Γ (pc + 3) L (.ref (X.2.1 + q) :: S) G d k n) : ya_E X Y Γ pc L (.ref (X.2.1 + a) :: S) G d k n := ya_getV hf hs ha (by simp [hq, va_rf]) hd kk
theorem ya_putV {a idx ci f t : Nat} {v : Value} {G' : ya_G} {d' : ya_D} (hf : ya_fo Y.2.1 idx ci f t) (hs : (G.2.1 a).1 = ci) (ha : a < G.1) (ty : FieldType) (nm : String)
    (hT : ∀ q ∈ ya_cl[ci]?, (q.2.1 f).2.2.2 = false ∧ parseFieldDescriptor (q.2.1 f).2.2.1 = some ty) (hnw : narrow ty v = v) (hfit : fits ty v = true)
    (hN : G'.1 = G.1) (hsh : G'.2.1 = G.2.1) (ho : ∀ b, b ≠ a → ya_e X G' d' b = ya_e X G d b) (hx : ∀ q, q ≠ f → G'.2.2 a q = G.2.2 a q ∧ d'.1 a q = d.1 a q ∧ d'.2 a q = d.2 a q) (hv : (if t = 0 then Value.int (d'.1 a f) else if t = 1 then .long (d'.2 a f) else va_rf ((G'.2.2 a f).map (fun q => X.2.1 + q))) = v) (hd : decode Y.1 pc = .ok (.putfield idx, 3))
    (kk : ya_E X Y Γ (pc + 3) L S G' d' k n) : ya_E X Y Γ pc L (v :: .ref (X.2.1 + a) :: S) G d k n := by
  intro p e s m args below meth c H locs ls hC hH hl
  obtain ⟨C, T, N, ty0, h1, h2, h3, h4, h5, h6, h7, h8, h9, h10⟩ := hf
  obtain ⟨g1, g2⟩ := hT (C, T, N) (by rw [h1]; rfl)
  have hset := ya_fl_set (b := X.2.1) (r := G.2.2 a) (r' := G'.2.2 a) (i := d.1 a) (i' := d'.1 a) (j := d.2 a) (j' := d'.2 a) (v := v) (ya_ft ci) 0 f t h8 (fun q hq => hx q (by omega)) (by rw [Nat.zero_add]; exact hv)
  refine va_put (D := (X.2.2.1, X.2.2.2.1)) (ci := ci) (v := v) (ty := ty) (C := C) (T := T) (N := N) (ref := C) hC.1 hC.2.1 hC.2.2.2.2.1 h2 ty0 h3 h4 hC.2.2.2.1 hC.2.2.2.2.2.1 hH.1 ya_w_D hH.2.1 a (by rw [ya_w_at ha, ya_e_o hs h9]) h1 f h5 (hC.2.2.2.2.1 _ h7) ?_ g1 g2 hnw hfit (by rw [ya_fl_len, h10]; exact h5) hd (fun H1 locs1 hP1 _ hS1 => ?_)
  · intro x hx
    rw [h6] at hx
    exact hx
  · rw [hset, ya_w_set (G' := G') (d' := d') hN (ya_e_o (by rw [hsh]; exact hs) h9) ho] at hP1
    exact kk p e s m args below meth c H1 locs1 ls hC ⟨hP1, hS1, by rw [hN]; exact hH.2.2⟩ hl
theorem ya_sI_o {a f : Nat} {v : Int32} : ∀ b, b ≠ a → ya_e X G (ya_sI d a f v) b = ya_e X G d b := by
  intro b hb
  have h : (ya_sI d a f v).1 b = d.1 b := by
    funext q
    simp [ya_sI, hb]
  have h2 : (ya_sI d a f v).2 b = d.2 b := rfl
  unfold ya_e
  rw [h, h2]
theorem ya_sL_o {a f : Nat} {v : Int64} : ∀ b, b ≠ a → ya_e X G (ya_sL d a f v) b = ya_e X G d b := by
  intro b hb
  have h : (ya_sL d a f v).2 b = d.2 b := by
    funext q
    simp [ya_sL, hb]
  have h2 : (ya_sL d a f v).1 b = d.1 b := rfl
  unfold ya_e
  rw [h, h2]
theorem ya_sR_o {a f : Nat} {v : Option Nat} : ∀ b, b ≠ a → ya_e X (ya_sR G a f v) d b = ya_e X G d b := by
  intro b hb
  have h : (ya_sR G a f v).2.2 b = G.2.2 b := by
    funext q
    simp [ya_sR, hb]
  have h2 : (ya_sR G a f v).2.1 b = G.2.1 b := rfl
  unfold ya_e
  rw [h, h2]
theorem ya_putI {a idx ci f : Nat} {v : Int32} (hf : ya_fo Y.2.1 idx ci f 0) (hs : (G.2.1 a).1 = ci) (ha : a < G.1) (ty : FieldType) (hT : ∀ q ∈ ya_cl[ci]?, (q.2.1 f).2.2.2 = false ∧ parseFieldDescriptor (q.2.1 f).2.2.1 = some ty) (hnw : narrow ty (.int v) = .int v) (hfit : fits ty (.int v) = true) (hd : decode Y.1 pc = .ok (.putfield idx, 3))
    (kk : ya_E X Y Γ (pc + 3) L S G (ya_sI d a f v) k n) : ya_E X Y Γ pc L (.int v :: .ref (X.2.1 + a) :: S) G d k n :=
  ya_putV hf hs ha ty "" hT hnw hfit rfl rfl ya_sI_o (fun q hq => ⟨rfl, by simp [ya_sI, hq], rfl⟩) (by simp [ya_sI]) hd kk
theorem ya_putL {a idx ci f : Nat} {v : Int64} (hf : ya_fo Y.2.1 idx ci f 1) (hs : (G.2.1 a).1 = ci) (ha : a < G.1) (hT : ∀ q ∈ ya_cl[ci]?, (q.2.1 f).2.2.2 = false ∧ parseFieldDescriptor (q.2.1 f).2.2.1 = some .long) (hd : decode Y.1 pc = .ok (.putfield idx, 3))
    (kk : ya_E X Y Γ (pc + 3) L S G (ya_sL d a f v) k n) : ya_E X Y Γ pc L (.long v :: .ref (X.2.1 + a) :: S) G d k n :=
  ya_putV hf hs ha .long "" hT rfl rfl rfl rfl ya_sL_o (fun q hq => ⟨rfl, rfl, by simp [ya_sL, hq]⟩) (by simp [ya_sL]) hd kk
/-- a final field, in its class's constructor -/
theorem ya_putF {a q idx ci f : Nat} (hf : ya_fo Y.2.1 idx ci f 2) (hs : (G.2.1 a).1 = ci) (ha : a < G.1) (ty : FieldType) (hT : ∀ q ∈ ya_cl[ci]?, (q.2.1 f).2.2.2 = true ∧ q.1 = Y.2.1 ∧ parseFieldDescriptor (q.2.1 f).2.2.1 = some ty) (hnw : narrow ty (.ref (X.2.1 + q)) = .ref (X.2.1 + q)) (hfit : fits ty (.ref (X.2.1 + q)) = true) (hnm : Y.2.2.2.2.1 = "<init>") (hd : decode Y.1 pc = .ok (.putfield idx, 3))
    (kk : ya_E X Y Γ (pc + 3) L S (ya_sR G a f (some q)) d k n) : ya_E X Y Γ pc L (.ref (X.2.1 + q) :: .ref (X.2.1 + a) :: S) G d k n := by
  intro p e s m args below meth c H locs ls hC hH hl
  obtain ⟨C, T, N, ty0, h1, h2, h3, h4, h5, h6, h7, h8, h9, h10⟩ := hf
  obtain ⟨g1, g3, g2⟩ := hT (C, T, N) (by rw [h1]; rfl)
  have hset := ya_fl_set (b := X.2.1) (r := G.2.2 a) (r' := (ya_sR G a f (some q)).2.2 a) (i := d.1 a) (i' := d.1 a) (j := d.2 a) (j' := d.2 a) (v := .ref (X.2.1 + q)) (ya_ft ci) 0 f 2 h8 (fun q hq => ⟨by simp [ya_sR, show q ≠ f by omega], rfl, rfl⟩) (by simp [ya_sR, va_rf])
  refine va_putF (D := (X.2.2.1, X.2.2.2.1)) (ci := ci) (ty := ty) (C := C) (T := T) (N := N) (ref := C) hC.1 hC.2.1 hC.2.2.2.2.1 h2 ty0 h3 h4 hC.2.2.2.1 hC.2.2.2.2.2.1 hH.1 ya_w_D hH.2.1 a (by rw [ya_w_at ha, ya_e_o hs h9]) h1 f h5 (hC.2.2.2.2.1 _ h7) ?_ g1 (hC.2.2.2.2.2.2.2.2.1.trans hnm) (h6.trans g3) g2 hnw hfit (by rw [ya_fl_len, h10]; exact h5) hd (fun H1 locs1 hP1 _ hS1 => ?_)
  · intro x hx
    rw [h6] at hx
    exact hx
  · rw [hset, ya_w_set (G := G) (G' := ya_sR G a f (some q)) (d := d) (d' := d) rfl (ya_e_o (G := ya_sR G a f (some q)) hs h9) ya_sR_o] at hP1
    exact kk p e s m args below meth c H1 locs1 ls hC ⟨hP1, hS1, hH.2.2⟩ hl
-- arrays
theorem ya_iald {a na : Nat} {i : Int32} {γ : Type} {f : Int32 → Option γ} {rr : γ} (hs : G.2.1 a = (20, na)) (ha : a < G.1) (hd : decode Y.1 pc = .ok (.iaload, 1)) (h : (ya_rI d a na i).bind f = some rr)
    (kk : ∀ x, f x = some rr → ya_E X Y Γ (pc + 1) L (.int x :: S) G d k n) : ya_E X Y Γ pc L (.int i :: .ref (X.2.1 + a) :: S) G d k n := by
  intro p e s m args below meth c H locs ls hC hH hl
  obtain ⟨x, hx, h⟩ := ya_ob h
  obtain ⟨hin, rfl⟩ := ya_rI_s hx
  exact va_iald hC.1 hC.2.1 hC.2.2.2.2.2.1 hH.1 a 0 (by rw [ya_w_at ha, ya_e_i hs (by decide) (by decide)]) (ya_tyat (k := 20) (by decide) (by decide)) hin hd (kk _ h p e s m args below meth c H locs ls hC hH hl)
theorem ya_bald {a na : Nat} {i : Int32} {γ : Type} {f : Int32 → Option γ} {rr : γ} (hs : G.2.1 a = (21, na)) (ha : a < G.1) (hd : decode Y.1 pc = .ok (.baload, 1)) (h : (ya_rI d a na i).bind f = some rr)
    (kk : ∀ x, f x = some rr → ya_E X Y Γ (pc + 1) L (.int x :: S) G d k n) : ya_E X Y Γ pc L (.int i :: .ref (X.2.1 + a) :: S) G d k n := by
  intro p e s m args below meth c H locs ls hC hH hl
  obtain ⟨x, hx, h⟩ := ya_ob h
  obtain ⟨hin, rfl⟩ := ya_rI_s hx
  exact va_bald hC.1 hC.2.1 hC.2.2.2.2.2.1 hH.1 a 1 (by rw [ya_w_at ha, ya_e_i hs (by decide) (by decide)]) (ya_tyat (k := 21) (by decide) (by decide)) hin hd (kk _ h p e s m args below meth c H locs ls hC hH hl)
theorem ya_zald {a na : Nat} {i : Int32} {γ : Type} {f : Int32 → Option γ} {rr : γ} (hs : G.2.1 a = (22, na)) (ha : a < G.1) (hd : decode Y.1 pc = .ok (.baload, 1)) (h : (ya_rI d a na i).bind f = some rr)
    (kk : ∀ x, f x = some rr → ya_E X Y Γ (pc + 1) L (.int x :: S) G d k n) : ya_E X Y Γ pc L (.int i :: .ref (X.2.1 + a) :: S) G d k n := by
  intro p e s m args below meth c H locs ls hC hH hl
  obtain ⟨x, hx, h⟩ := ya_ob h
  obtain ⟨hin, rfl⟩ := ya_rI_s hx
  exact va_zald hC.1 hC.2.1 hC.2.2.2.2.2.1 hH.1 a 2 (by rw [ya_w_at ha, ya_e_i hs (by decide) (by decide)]) (ya_tyat (k := 22) (by decide) (by decide)) hin hd (kk _ h p e s m args below meth c H locs ls hC hH hl)
theorem ya_cald {a na : Nat} {i : Int32} {γ : Type} {f : Int32 → Option γ} {rr : γ} (hs : G.2.1 a = (23, na)) (ha : a < G.1) (hd : decode Y.1 pc = .ok (.caload, 1)) (h : (ya_rI d a na i).bind f = some rr)
    (kk : ∀ x, f x = some rr → ya_E X Y Γ (pc + 1) L (.int x :: S) G d k n) : ya_E X Y Γ pc L (.int i :: .ref (X.2.1 + a) :: S) G d k n := by
  intro p e s m args below meth c H locs ls hC hH hl
  obtain ⟨x, hx, h⟩ := ya_ob h
  obtain ⟨hin, rfl⟩ := ya_rI_s hx
  exact va_cald hC.1 hC.2.1 hC.2.2.2.2.2.1 hH.1 a 3 (by rw [ya_w_at ha, ya_e_i hs (by decide) (by decide)]) (ya_tyat (k := 23) (by decide) (by decide)) hin hd (kk _ h p e s m args below meth c H locs ls hC hH hl)
theorem ya_lald {a na : Nat} {i : Int32} {γ : Type} {f : Int64 → Option γ} {rr : γ} (hs : G.2.1 a = (24, na)) (ha : a < G.1) (hd : decode Y.1 pc = .ok (.laload, 1)) (h : (ya_rL d a na i).bind f = some rr)
    (kk : ∀ x, f x = some rr → ya_E X Y Γ (pc + 1) L (.long x :: S) G d k n) : ya_E X Y Γ pc L (.int i :: .ref (X.2.1 + a) :: S) G d k n := by
  intro p e s m args below meth c H locs ls hC hH hl
  obtain ⟨x, hx, h⟩ := ya_ob h
  obtain ⟨hin, rfl⟩ := ya_rL_s hx
  exact va_lald hC.1 hC.2.1 hC.2.2.2.2.2.1 hH.1 a 4 (by rw [ya_w_at ha, ya_e_l hs]) (ya_tyat (k := 24) (by decide) (by decide)) hin hd (kk _ h p e s m args below meth c H locs ls hC hH hl)
/-- a place of a row of links, as it is -/
theorem ya_aald {a ka na : Nat} {i : Int32} {C : String} (hs : G.2.1 a = (ka, na)) (h0 : 24 < ka) (h1 : ka < 27) (hC0 : ya_at ka = .object C) (ha : a < G.1) (hin : vp_in i na) (hd : decode Y.1 pc = .ok (.aaload, 1))
    (kk : ya_E X Y Γ (pc + 1) L (va_rf ((G.2.2 a i.toNatClampNeg).map (fun q => X.2.1 + q)) :: S) G d k n) : ya_E X Y Γ pc L (.int i :: .ref (X.2.1 + a) :: S) G d k n := by
  intro p e s m args below meth c H locs ls hC hH hl
  have ht := ya_tyat (X := X) (k := ka) (by omega) h1
  rw [hC0] at ht
  exact va_aldq hC.1 hC.2.1 hC.2.2.2.2.2.1 hH.1 a (ka - 20) (f := fun j => (G.2.2 a j).map (fun q => X.2.1 + q)) (by rw [ya_w_at ha, ya_e_q hs h0]) ht hin hd (kk p e s m args below meth c H locs ls hC hH hl)
theorem ya_e_sI {a ka na j : Nat} {v : Int32} (hs : G.2.1 a = (ka, na)) (h0 : 20 ≤ ka) (h1 : ka < 24) : ya_e X G (ya_sI d a j v) a = .inl (X.2.2.2.2.1 ka, na, .inl (upd (d.1 a) j v)) := by
  rw [ya_e_i hs h0 h1]
  congr 4
  funext q
  by_cases hq : q = j <;> simp [ya_sI, upd, hq]
theorem ya_iast {a na : Nat} {i x : Int32} {γ : Type} {f : ya_D → Option γ} {rr : γ} (hs : G.2.1 a = (20, na)) (ha : a < G.1) (hd : decode Y.1 pc = .ok (.iastore, 1)) (h : (ya_wI d a na i x).bind f = some rr)
    (kk : ∀ d', f d' = some rr → ya_E X Y Γ (pc + 1) L S G d' k n) : ya_E X Y Γ pc L (.int x :: .int i :: .ref (X.2.1 + a) :: S) G d k n := by
  intro p e s m args below meth c H locs ls hC hH hl
  obtain ⟨d', hx, h⟩ := ya_ob h
  obtain ⟨hin, rfl⟩ := ya_wI_s hx
  refine va_iast hC.1 hC.2.1 hC.2.2.2.2.2.1 hH.1 ya_w_D hH.2.1 a 0 (by rw [ya_w_at ha, ya_e_i hs (by decide) (by decide)]) (ya_tyat (k := 20) (by decide) (by decide)) hin hd (fun H1 locs1 hP1 _ hS1 => ?_)
  rw [ya_w_set (G' := G) (d' := ya_sI d a i.toNatClampNeg x) rfl (ya_e_sI hs (by decide) (by decide)) ya_sI_o] at hP1
  exact kk _ h p e s m args below meth c H1 locs1 ls hC ⟨hP1, hS1, hH.2.2⟩ hl
theorem ya_cast {a na : Nat} {i x : Int32} {γ : Type} {f : ya_D → Option γ} {rr : γ} (hs : G.2.1 a = (23, na)) (ha : a < G.1) (hd : decode Y.1 pc = .ok (.castore, 1)) (h : (ya_wI d a na i (vp_nar .char x)).bind f = some rr)
    (kk : ∀ d', f d' = some rr → ya_E X Y Γ (pc + 1) L S G d' k n) : ya_E X Y Γ pc L (.int x :: .int i :: .ref (X.2.1 + a) :: S) G d k n := by
  intro p e s m args below meth c H locs ls hC hH hl
  obtain ⟨d', hx, h⟩ := ya_ob h
  obtain ⟨hin, rfl⟩ := ya_wI_s hx
  refine va_cast hC.1 hC.2.1 hC.2.2.2.2.2.1 hH.1 ya_w_D hH.2.1 a 3 (by rw [ya_w_at ha, ya_e_i hs (by decide) (by decide)]) (ya_tyat (k := 23) (by decide) (by decide)) hin hd (fun H1 locs1 hP1 _ hS1 => ?_)
  rw [ya_w_set (G' := G) (d' := ya_sI d a i.toNatClampNeg (vp_nar .char x)) rfl (ya_e_sI hs (by decide) (by decide)) ya_sI_o] at hP1
  exact kk _ h p e s m args below meth c H1 locs1 ls hC ⟨hP1, hS1, hH.2.2⟩ hl
theorem ya_bast {a na : Nat} {i x : Int32} {γ : Type} {f : ya_D → Option γ} {rr : γ} (hs : G.2.1 a = (21, na)) (ha : a < G.1) (hd : decode Y.1 pc = .ok (.bastore, 1)) (h : (ya_wI d a na i (vp_nar .byte x)).bind f = some rr)
    (kk : ∀ d', f d' = some rr → ya_E X Y Γ (pc + 1) L S G d' k n) : ya_E X Y Γ pc L (.int x :: .int i :: .ref (X.2.1 + a) :: S) G d k n := by
  intro p e s m args below meth c H locs ls hC hH hl
  obtain ⟨d', hx, h⟩ := ya_ob h
  obtain ⟨hin, rfl⟩ := ya_wI_s hx
  refine va_bast hC.1 hC.2.1 hC.2.2.2.2.2.1 hH.1 ya_w_D hH.2.1 a 1 (by rw [ya_w_at ha, ya_e_i hs (by decide) (by decide)]) (ya_tyat (k := 21) (by decide) (by decide)) hin hd (fun H1 locs1 hP1 _ hS1 => ?_)
  rw [ya_w_set (G' := G) (d' := ya_sI d a i.toNatClampNeg (vp_nar .byte x)) rfl (ya_e_sI hs (by decide) (by decide)) ya_sI_o] at hP1
  exact kk _ h p e s m args below meth c H1 locs1 ls hC ⟨hP1, hS1, hH.2.2⟩ hl
theorem ya_zast {a na : Nat} {i x : Int32} {γ : Type} {f : ya_D → Option γ} {rr : γ} (hs : G.2.1 a = (22, na)) (ha : a < G.1) (hd : decode Y.1 pc = .ok (.bastore, 1)) (h : (ya_wI d a na i (vp_nar .boolean x)).bind f = some rr)
    (kk : ∀ d', f d' = some rr → ya_E X Y Γ (pc + 1) L S G d' k n) : ya_E X Y Γ pc L (.int x :: .int i :: .ref (X.2.1 + a) :: S) G d k n := by
  intro p e s m args below meth c H locs ls hC hH hl
  obtain ⟨d', hx, h⟩ := ya_ob h
  obtain ⟨hin, rfl⟩ := ya_wI_s hx
  refine va_zast hC.1 hC.2.1 hC.2.2.2.2.2.1 hH.1 ya_w_D hH.2.1 a 2 (by rw [ya_w_at ha, ya_e_i hs (by decide) (by decide)]) (ya_tyat (k := 22) (by decide) (by decide)) hin hd (fun H1 locs1 hP1 _ hS1 => ?_)
  rw [ya_w_set (G' := G) (d' := ya_sI d a i.toNatClampNeg (vp_nar .boolean x)) rfl (ya_e_sI hs (by decide) (by decide)) ya_sI_o] at hP1
  exact kk _ h p e s m args below meth c H1 locs1 ls hC ⟨hP1, hS1, hH.2.2⟩ hl
theorem ya_last {a na : Nat} {i : Int32} {x : Int64} {γ : Type} {f : ya_D → Option γ} {rr : γ} (hs : G.2.1 a = (24, na)) (ha : a < G.1) (hd : decode Y.1 pc = .ok (.lastore, 1)) (h : (ya_wL d a na i x).bind f = some rr)
    (kk : ∀ d', f d' = some rr → ya_E X Y Γ (pc + 1) L S G d' k n) : ya_E X Y Γ pc L (.long x :: .int i :: .ref (X.2.1 + a) :: S) G d k n := by
  intro p e s m args below meth c H locs ls hC hH hl
  obtain ⟨d', hx, h⟩ := ya_ob h
  obtain ⟨hin, rfl⟩ := ya_wL_s hx
  refine va_last hC.1 hC.2.1 hC.2.2.2.2.2.1 hH.1 ya_w_D hH.2.1 a 4 (by rw [ya_w_at ha, ya_e_l hs]) (ya_tyat (k := 24) (by decide) (by decide)) hin hd (fun H1 locs1 hP1 _ hS1 => ?_)
  have he : ya_e X G (ya_sL d a i.toNatClampNeg x) a = .inl (X.2.2.2.2.1 24, na, .inr (.inl (vp_updL (d.2 a) i.toNatClampNeg x))) := by
    rw [ya_e_l hs]
    congr 5
    funext q
    by_cases hq : q = i.toNatClampNeg <;> simp [ya_sL, vp_updL, hq]
  rw [ya_w_set (G' := G) (d' := ya_sL d a i.toNatClampNeg x) rfl he ya_sL_o] at hP1
  exact kk _ h p e s m args below meth c H1 locs1 ls hC ⟨hP1, hS1, hH.2.2⟩ hl
theorem ya_alen {a ka na : Nat} {v : Int32} (hs : G.2.1 a = (ka, na)) (h0 : 20 ≤ ka) (h1 : ka < 27) (ha : a < G.1) (hv : Int32.ofNat na = v) (hd : decode Y.1 pc = .ok (.arraylength, 1))
    (kk : ya_E X Y Γ (pc + 1) L (.int v :: S) G d k n) : ya_E X Y Γ pc L (.ref (X.2.1 + a) :: S) G d k n := by
  intro p e s m args below meth c H locs ls hC hH hl
  have hx : ∃ y : (Nat → Int32) ⊕ (Nat → Int64) ⊕ (Nat → UInt32) ⊕ (Nat → UInt64) ⊕ (Nat → Option Nat), ya_e X G d a = .inl (X.2.2.2.2.1 ka, na, y) := ⟨_, by simp [ya_e, hs, show ¬ ka < 20 by omega]; rfl⟩
  obtain ⟨y, hy⟩ := hx
  exact va_alen hC.1 hC.2.1 hC.2.2.2.2.2.1 hH.1 a (ka - 20) (by rw [ya_w_at ha, hy]) (ya_tyat h0 h1) hv hd (kk p e s m args below meth c H locs ls hC hH hl)
/-- a link put into a row of links -/
theorem ya_aast {a q ka na ci : Nat} {r : vw_C} {i : Int32} (hs : G.2.1 a = (ka, na)) (h0 : 24 < ka) (h1 : ka < 27) (hC0 : ya_at ka = .object r.1) (ha : a < G.1) (hcl : ya_cl[ci]? = some r) (hci : ci < 20) (hq : q < G.1) (hsq : (G.2.1 q).1 = ci) (hin : vp_in i na) (hd : decode Y.1 pc = .ok (.aastore, 1))
    (kk : ya_E X Y Γ (pc + 1) L S (ya_sR G a i.toNatClampNeg (some q)) d k n) : ya_E X Y Γ pc L (.ref (X.2.1 + q) :: .int i :: .ref (X.2.1 + a) :: S) G d k n := by
  intro p e s m args below meth c H locs ls hC hH hl
  have ht := ya_tyat (X := X) (k := ka) (by omega) h1
  rw [hC0] at ht
  refine va_astq hC.1 hC.2.1 hC.2.2.2.2.2.1 hH.1 ya_w_D hH.2.1 a (ka - 20) q ci (f := fun j => (G.2.2 a j).map (fun q => X.2.1 + q)) (by rw [ya_w_at ha, ya_e_q hs h0]) ht (by rw [ya_w_at hq, ya_e_o hsq hci]) hcl hin hd (fun H1 locs1 hP1 _ hS1 => ?_)
  have he : ya_e X (ya_sR G a i.toNatClampNeg (some q)) d a = .inl (X.2.2.2.2.1 ka, na, .inr (.inr (.inr (.inr (va_up (fun j => (G.2.2 a j).map (fun q => X.2.1 + q)) i.toNatClampNeg (some (X.2.1 + q))))))) := by
    rw [ya_e_q (G := ya_sR G a i.toNatClampNeg (some q)) hs h0]
    congr 7
    funext j
    by_cases hj : j = i.toNatClampNeg <;> simp [ya_sR, va_up, hj]
  rw [ya_w_set (G := G) (G' := ya_sR G a i.toNatClampNeg (some q)) (d := d) (d' := d) rfl he ya_sR_o] at hP1
  exact kk p e s m args below meth c H1 locs1 ls hC ⟨hP1, hS1, hH.2.2⟩ hl
end
