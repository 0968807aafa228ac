/-! What the printed functions are made of, and their rows -/
def ya_F : Nat := 10000
def ya_j0 {γ : Type} (f : Option γ) (m : (Option γ) → Option γ) : Option γ := m f
theorem ya_j0_s {γ : Type} {f : Option γ} {m : (Option γ) → Option γ} {rr : γ} {Q : Prop} (h : ya_j0 f m = some rr) (P : Prop) (hj : f  = some rr → P ) (hm : ∀ k : Option γ, (k  = some rr → P ) → m k = some rr → Q) : Q := hm f hj h
def ya_j1 {A γ : Type} (f : A → Option γ) (m : (A → Option γ) → Option γ) : Option γ := m f
theorem ya_j1_s {A γ : Type} {f : A → Option γ} {m : (A → Option γ) → Option γ} {rr : γ} {Q : Prop} (h : ya_j1 f m = some rr) (P : A → Prop) (hj : ∀ x0, f x0 = some rr → P x0) (hm : ∀ k : A → Option γ, (∀ x0, k x0 = some rr → P x0) → m k = some rr → Q) : Q := hm f hj h
def ya_j2 {A B γ : Type} (f : A → B → Option γ) (m : (A → B → Option γ) → Option γ) : Option γ := m f
theorem ya_j2_s {A B γ : Type} {f : A → B → Option γ} {m : (A → B → Option γ) → Option γ} {rr : γ} {Q : Prop} (h : ya_j2 f m = some rr) (P : A → B → Prop) (hj : ∀ x0 x1, f x0 x1 = some rr → P x0 x1) (hm : ∀ k : A → B → Option γ, (∀ x0 x1, k x0 x1 = some rr → P x0 x1) → m k = some rr → Q) : Q := hm f hj h
def ya_j3 {A B C γ : Type} (f : A → B → C → Option γ) (m : (A → B → C → Option γ) → Option γ) : Option γ := m f
theorem ya_j3_s {A B C γ : Type} {f : A → B → C → Option γ} {m : (A → B → C → Option γ) → Option γ} {rr : γ} {Q : Prop} (h : ya_j3 f m = some rr) (P : A → B → C → Prop) (hj : ∀ x0 x1 x2, f x0 x1 x2 = some rr → P x0 x1 x2) (hm : ∀ k : A → B → C → Option γ, (∀ x0 x1 x2, k x0 x1 x2 = some rr → P x0 x1 x2) → m k = some rr → Q) : Q := hm f hj h
def ya_j4 {A B C D γ : Type} (f : A → B → C → D → Option γ) (m : (A → B → C → D → Option γ) → Option γ) : Option γ := m f
theorem ya_j4_s {A B C D γ : Type} {f : A → B → C → D → Option γ} {m : (A → B → C → D → Option γ) → Option γ} {rr : γ} {Q : Prop} (h : ya_j4 f m = some rr) (P : A → B → C → D → Prop) (hj : ∀ x0 x1 x2 x3, f x0 x1 x2 x3 = some rr → P x0 x1 x2 x3) (hm : ∀ k : A → B → C → D → Option γ, (∀ x0 x1 x2 x3, k x0 x1 x2 x3 = some rr → P x0 x1 x2 x3) → m k = some rr → Q) : Q := hm f hj h
def ya_j5 {A B C D E γ : Type} (f : A → B → C → D → E → Option γ) (m : (A → B → C → D → E → Option γ) → Option γ) : Option γ := m f
theorem ya_j5_s {A B C D E γ : Type} {f : A → B → C → D → E → Option γ} {m : (A → B → C → D → E → Option γ) → Option γ} {rr : γ} {Q : Prop} (h : ya_j5 f m = some rr) (P : A → B → C → D → E → Prop) (hj : ∀ x0 x1 x2 x3 x4, f x0 x1 x2 x3 x4 = some rr → P x0 x1 x2 x3 x4) (hm : ∀ k : A → B → C → D → E → Option γ, (∀ x0 x1 x2 x3 x4, k x0 x1 x2 x3 x4 = some rr → P x0 x1 x2 x3 x4) → m k = some rr → Q) : Q := hm f hj h
def ya_j6 {A B C D E F γ : Type} (f : A → B → C → D → E → F → Option γ) (m : (A → B → C → D → E → F → Option γ) → Option γ) : Option γ := m f
theorem ya_j6_s {A B C D E F γ : Type} {f : A → B → C → D → E → F → Option γ} {m : (A → B → C → D → E → F → Option γ) → Option γ} {rr : γ} {Q : Prop} (h : ya_j6 f m = some rr) (P : A → B → C → D → E → F → Prop) (hj : ∀ x0 x1 x2 x3 x4 x5, f x0 x1 x2 x3 x4 x5 = some rr → P x0 x1 x2 x3 x4 x5) (hm : ∀ k : A → B → C → D → E → F → Option γ, (∀ x0 x1 x2 x3 x4 x5, k x0 x1 x2 x3 x4 x5 = some rr → P x0 x1 x2 x3 x4 x5) → m k = some rr → Q) : Q := hm f hj h
def ya_j7 {A B C D E F I γ : Type} (f : A → B → C → D → E → F → I → Option γ) (m : (A → B → C → D → E → F → I → Option γ) → Option γ) : Option γ := m f
theorem ya_j7_s {A B C D E F I γ : Type} {f : A → B → C → D → E → F → I → Option γ} {m : (A → B → C → D → E → F → I → Option γ) → Option γ} {rr : γ} {Q : Prop} (h : ya_j7 f m = some rr) (P : A → B → C → D → E → F → I → Prop) (hj : ∀ x0 x1 x2 x3 x4 x5 x6, f x0 x1 x2 x3 x4 x5 x6 = some rr → P x0 x1 x2 x3 x4 x5 x6) (hm : ∀ k : A → B → C → D → E → F → I → Option γ, (∀ x0 x1 x2 x3 x4 x5 x6, k x0 x1 x2 x3 x4 x5 x6 = some rr → P x0 x1 x2 x3 x4 x5 x6) → m k = some rr → Q) : Q := hm f hj h
def ya_j8 {A B C D E F I J γ : Type} (f : A → B → C → D → E → F → I → J → Option γ) (m : (A → B → C → D → E → F → I → J → Option γ) → Option γ) : Option γ := m f
theorem ya_j8_s {A B C D E F I J γ : Type} {f : A → B → C → D → E → F → I → J → Option γ} {m : (A → B → C → D → E → F → I → J → Option γ) → Option γ} {rr : γ} {Q : Prop} (h : ya_j8 f m = some rr) (P : A → B → C → D → E → F → I → J → Prop) (hj : ∀ x0 x1 x2 x3 x4 x5 x6 x7, f x0 x1 x2 x3 x4 x5 x6 x7 = some rr → P x0 x1 x2 x3 x4 x5 x6 x7) (hm : ∀ k : A → B → C → D → E → F → I → J → Option γ, (∀ x0 x1 x2 x3 x4 x5 x6 x7, k x0 x1 x2 x3 x4 x5 x6 x7 = some rr → P x0 x1 x2 x3 x4 x5 x6 x7) → m k = some rr → Q) : Q := hm f hj h
def ya_j9 {A B C D E F I J K γ : Type} (f : A → B → C → D → E → F → I → J → K → Option γ) (m : (A → B → C → D → E → F → I → J → K → Option γ) → Option γ) : Option γ := m f
theorem ya_j9_s {A B C D E F I J K γ : Type} {f : A → B → C → D → E → F → I → J → K → Option γ} {m : (A → B → C → D → E → F → I → J → K → Option γ) → Option γ} {rr : γ} {Q : Prop} (h : ya_j9 f m = some rr) (P : A → B → C → D → E → F → I → J → K → Prop) (hj : ∀ x0 x1 x2 x3 x4 x5 x6 x7 x8, f x0 x1 x2 x3 x4 x5 x6 x7 x8 = some rr → P x0 x1 x2 x3 x4 x5 x6 x7 x8) (hm : ∀ k : A → B → C → D → E → F → I → J → K → Option γ, (∀ x0 x1 x2 x3 x4 x5 x6 x7 x8, k x0 x1 x2 x3 x4 x5 x6 x7 x8 = some rr → P x0 x1 x2 x3 x4 x5 x6 x7 x8) → m k = some rr → Q) : Q := hm f hj h
def ya_j10 {A B C D E F I J K L γ : Type} (f : A → B → C → D → E → F → I → J → K → L → Option γ) (m : (A → B → C → D → E → F → I → J → K → L → Option γ) → Option γ) : Option γ := m f
theorem ya_j10_s {A B C D E F I J K L γ : Type} {f : A → B → C → D → E → F → I → J → K → L → Option γ} {m : (A → B → C → D → E → F → I → J → K → L → Option γ) → Option γ} {rr : γ} {Q : Prop} (h : ya_j10 f m = some rr) (P : A → B → C → D → E → F → I → J → K → L → Prop) (hj : ∀ x0 x1 x2 x3 x4 x5 x6 x7 x8 x9, f x0 x1 x2 x3 x4 x5 x6 x7 x8 x9 = some rr → P x0 x1 x2 x3 x4 x5 x6 x7 x8 x9) (hm : ∀ k : A → B → C → D → E → F → I → J → K → L → Option γ, (∀ x0 x1 x2 x3 x4 x5 x6 x7 x8 x9, k x0 x1 x2 x3 x4 x5 x6 x7 x8 x9 = some rr → P x0 x1 x2 x3 x4 x5 x6 x7 x8 x9) → m k = some rr → Q) : Q := hm f hj h
def ya_b2 {A B γ : Type} (o : Option (A × B)) (f : A → B → Option γ) : Option γ := o.bind (fun u => f u.1 u.2)
theorem ya_ob2 {A B γ : Type} {o : Option (A × B)} {f : A → B → Option γ} {r : γ} (h : ya_b2 o f = some r) : ∃ x y, o = some (x, y) ∧ f x y = some r := by
  cases o with
  | none => cases h
  | some u => exact ⟨u.1, u.2, rfl, h⟩
def ya_pI (d : ya_D) (a k : Nat) (v : Int32) : Option ya_D := some (ya_sI d a k v)
def ya_pL (d : ya_D) (a k : Nat) (v : Int64) : Option ya_D := some (ya_sL d a k v)
def ya_zz (v : Int32) : Option Int32 := if v = 0 ∨ v = 1 then some v else none
def ya_dv (x y : Int32) : Option Int32 := if y = 0 then none else some (x / y)
def ya_rm (x y : Int32) : Option Int32 := if y = 0 then none else some (x - x / y * y)
def ya_lrm (x y : Int64) : Option Int64 := if y = 0 then none else some (x - x / y * y)
def ya_fr (i : Int32) : Option Int32 := if i < 0 ∨ 8 ≤ i.toNatClampNeg then none else some (ya_fact i.toNatClampNeg)
def ya_lk {γ : Type} (G : ya_G) (a n : Nat) (i : Int32) (f0 : Option γ) (f1 : Nat → Option γ) : Option γ := if i < 0 ∨ n ≤ i.toNatClampNeg then none else match G.2.2 a i.toNatClampNeg with
  | none => f0
  | some q => f1 q
section
variable {X : ya_X} {Y : ya_Y} {Γ : ya_Γ} {pc : Nat} {L : List (Nat × Value)} {S : List Value} {G : ya_G} {d : ya_D} {k n : Nat}
theorem ya_putIb {a idx ci f : Nat} {v : Int32} {γ : Type} {g : ya_D → Option γ} {rr : γ} (hf : ya_fo Y.2.1 idx ci f 0) (hs : (G.2.1 a).1 = ci) (ha : a < G.1) (ty : FieldType) (hT : ∀ q ∈ ya_cl[ci]?, (q.2.1 f).2.2.2 = false ∧ parseFieldDescriptor (q.2.1 f).2.2.1 = some ty) (hnw : narrow ty (.int v) = .int v) (hfit : fits ty (.int v) = true) (hd : decode Y.1 pc = .ok (.putfield idx, 3)) (h : (ya_pI d a f v).bind g = some rr)
    (kk : ∀ d', g d' = some rr → ya_E X Y Γ (pc + 3) L S G d' k n) : ya_E X Y Γ pc L (.int v :: .ref (X.2.1 + a) :: S) G d k n := ya_putI hf hs ha ty hT hnw hfit hd (kk _ h)
theorem ya_putLb {a idx ci f : Nat} {v : Int64} {γ : Type} {g : ya_D → Option γ} {rr : γ} (hf : ya_fo Y.2.1 idx ci f 1) (hs : (G.2.1 a).1 = ci) (ha : a < G.1) (hT : ∀ q ∈ ya_cl[ci]?, (q.2.1 f).2.2.2 = false ∧ parseFieldDescriptor (q.2.1 f).2.2.1 = some .long) (hd : decode Y.1 pc = .ok (.putfield idx, 3)) (h : (ya_pL d a f v).bind g = some rr)
    (kk : ∀ d', g d' = some rr → ya_E X Y Γ (pc + 3) L S G d' k n) : ya_E X Y Γ pc L (.long v :: .ref (X.2.1 + a) :: S) G d k n := ya_putL hf hs ha hT hd (kk _ h)
theorem ya_idivb {x y : Int32} {γ : Type} {g : Int32 → Option γ} {rr : γ} (hd : decode Y.1 pc = .ok (.idiv, 1)) (h : (ya_dv x y).bind g = some rr) (kk : ∀ q, g q = some rr → ya_E X Y Γ (pc + 1) L (.int q :: S) G d k n) : ya_E X Y Γ pc L (.int y :: .int x :: S) G d k n := by
  unfold ya_dv at h
  by_cases hy : y = 0
  · rw [if_pos hy] at h; cases h
  · rw [if_neg hy] at h; exact ya_idiv hy hd (kk _ h)
theorem ya_iremb {x y : Int32} {γ : Type} {g : Int32 → Option γ} {rr : γ} (hd : decode Y.1 pc = .ok (.irem, 1)) (h : (ya_rm x y).bind g = some rr) (kk : ∀ q, g q = some rr → ya_E X Y Γ (pc + 1) L (.int q :: S) G d k n) : ya_E X Y Γ pc L (.int y :: .int x :: S) G d k n := by
  unfold ya_rm at h
  by_cases hy : y = 0
  · rw [if_pos hy] at h; cases h
  · rw [if_neg hy] at h; exact ya_irem hy hd (kk _ h)
theorem ya_lremb {x y : Int64} {γ : Type} {g : Int64 → Option γ} {rr : γ} (hd : decode Y.1 pc = .ok (.lrem, 1)) (h : (ya_lrm x y).bind g = some rr) (kk : ∀ q, g q = some rr → ya_E X Y Γ (pc + 1) L (.long q :: S) G d k n) : ya_E X Y Γ pc L (.long y :: .long x :: S) G d k n := by
  unfold ya_lrm at h
  by_cases hy : y = 0
  · rw [if_pos hy] at h; cases h
  · rw [if_neg hy] at h; exact ya_lrem hy hd (kk _ h)
theorem ya_zretb {v : Int32} {γ : Type} {g : Int32 → Option γ} {rr : γ} (hd : decode Y.1 pc = .ok (.ireturn, 1)) (h : (ya_zz v).bind g = some rr) (kk : narrow .boolean (.int v) = .int v → g v = some rr → ya_E X Y Γ pc L [.int v] G d k n) : ya_E X Y Γ pc L [.int v] G d k n := by
  unfold ya_zz at h
  by_cases hy : v = 0 ∨ v = 1
  · rw [if_pos hy] at h
    exact kk (by rcases hy with rfl | rfl <;> decide) h
  · rw [if_neg hy] at h; cases h
theorem ya_lkb {a ka na : Nat} {i : Int32} {C : String} {γ : Type} {f0 : Option γ} {f1 : Nat → Option γ} {rr : γ} (hs : G.2.1 a = (ka, na)) (h0 : 24 < ka) (h1 : ka < 27) (hC0 : ya_at ka = .object C) (ha : a < G.1) (hd : decode Y.1 pc = .ok (.aaload, 1)) (h : ya_lk G a na i f0 f1 = some rr)
    (kn : f0 = some rr → ya_E X Y Γ (pc + 1) L (.null :: S) G d k n) (ks : ∀ q, G.2.2 a i.toNatClampNeg = some q → f1 q = some rr → ya_E X Y Γ (pc + 1) L (.ref (X.2.1 + q) :: S) G d k n) : ya_E X Y Γ pc L (.int i :: .ref (X.2.1 + a) :: S) G d k n := by
  unfold ya_lk at h
  by_cases hi : i < 0 ∨ na ≤ i.toNatClampNeg
  · rw [if_pos hi] at h; cases h
  · rw [if_neg hi] at h
    refine ya_aald hs h0 h1 hC0 ha hi hd ?_
    cases hq : G.2.2 a i.toNatClampNeg with
    | none => rw [hq] at h; exact kn h
    | some q => rw [hq] at h; exact ks q hq h
theorem ya_fgets {i : Nat} (hlk : Cond.fieldLink Y.2.1 i "YearAgo" "FACTORIAL" "[I" ∈ lw_g) (hd : decode Y.1 pc = .ok (.getstatic i, 3)) (kk : ya_E X Y Γ (pc + 3) L (.ref X.2.2.2.2.2.2.2.2 :: S) G d k n) : ya_E X Y Γ pc L S G d k n := by
  intro p e s m args below meth c H locs ls hC hH hl
  exact va_gets hC.1 hC.2.1 hC.2.2.2.2.2.2.2.2.2.1.2.2.2.1 hH.2.1 hC.2.2.2.1 (hC.2.2.2.2.1 _ hlk) (fun _ h => h) hd (kk p e s m args below meth c H locs ls hC hH hl)
theorem ya_fald {i : Int32} {γ : Type} {g : Int32 → Option γ} {rr : γ} (hd : decode Y.1 pc = .ok (.iaload, 1)) (h : (ya_fr i).bind g = some rr) (kk : ∀ x, g x = some rr → ya_E X Y Γ (pc + 1) L (.int x :: S) G d k n) : ya_E X Y Γ pc L (.int i :: .ref X.2.2.2.2.2.2.2.2 :: S) G d k n := by
  intro p e s m args below meth c H locs ls hC hH hl
  unfold ya_fr at h
  by_cases hi : i < 0 ∨ 8 ≤ i.toNatClampNeg
  · rw [if_pos hi] at h; cases h
  · rw [if_neg hi] at h
    exact va_ti hC.1 hC.2.1 hC.2.2.2.2.2.2.2.2.2.1.2.2.2.2.1 hH.2.1 hi rfl hd (kk _ h p e s m args below meth c H locs ls hC hH hl)
theorem ya_lif_eq {x y : Int64} {off : Int} (t : Nat) (ht : ((pc + 1 : Nat) : Int) + off = (t : Int)) (hd1 : decode Y.1 pc = .ok (.lcmp, 1)) (hd : decode Y.1 (pc + 1) = .ok (.ifCond .eq off, 3)) (kt : x = y → ya_E X Y Γ t L S G d k n) (kf : ¬ (x = y) → ya_E X Y Γ (pc + 4) L S G d k n) : ya_E X Y Γ pc L (.long y :: .long x :: S) G d k n :=
  ya_lcmp hd1 (ya_ifeq t ht hd (fun c => kt ((lg_cmp_eq x y).mp c)) (fun c => kf (fun e => c ((lg_cmp_eq x y).mpr e))))
theorem ya_lif_ne {x y : Int64} {off : Int} (t : Nat) (ht : ((pc + 1 : Nat) : Int) + off = (t : Int)) (hd1 : decode Y.1 pc = .ok (.lcmp, 1)) (hd : decode Y.1 (pc + 1) = .ok (.ifCond .ne off, 3)) (kt : ¬ x = y → ya_E X Y Γ t L S G d k n) (kf : x = y → ya_E X Y Γ (pc + 4) L S G d k n) : ya_E X Y Γ pc L (.long y :: .long x :: S) G d k n :=
  ya_lcmp hd1 (ya_ifne t ht hd (fun c => kt (fun e => c ((lg_cmp_eq x y).mpr e))) (fun c => kf ((lg_cmp_eq x y).mp c)))
theorem ya_lif_lt {x y : Int64} {off : Int} (t : Nat) (ht : ((pc + 1 : Nat) : Int) + off = (t : Int)) (hd1 : decode Y.1 pc = .ok (.lcmp, 1)) (hd : decode Y.1 (pc + 1) = .ok (.ifCond .lt off, 3)) (kt : x < y → ya_E X Y Γ t L S G d k n) (kf : ¬ (x < y) → ya_E X Y Γ (pc + 4) L S G d k n) : ya_E X Y Γ pc L (.long y :: .long x :: S) G d k n :=
  ya_lcmp hd1 (ya_iflt t ht hd (fun c => kt ((lg_cmp_lt x y).mp c)) (fun c => kf (fun e => c ((lg_cmp_lt x y).mpr e))))
theorem ya_lif_ge {x y : Int64} {off : Int} (t : Nat) (ht : ((pc + 1 : Nat) : Int) + off = (t : Int)) (hd1 : decode Y.1 pc = .ok (.lcmp, 1)) (hd : decode Y.1 (pc + 1) = .ok (.ifCond .ge off, 3)) (kt : y ≤ x → ya_E X Y Γ t L S G d k n) (kf : ¬ (y ≤ x) → ya_E X Y Γ (pc + 4) L S G d k n) : ya_E X Y Γ pc L (.long y :: .long x :: S) G d k n :=
  ya_lcmp hd1 (ya_ifge t ht hd (fun c => kt ((lg_cmp_ge x y).mp c)) (fun c => kf (fun e => c ((lg_cmp_ge x y).mpr e))))
theorem ya_lif_gt {x y : Int64} {off : Int} (t : Nat) (ht : ((pc + 1 : Nat) : Int) + off = (t : Int)) (hd1 : decode Y.1 pc = .ok (.lcmp, 1)) (hd : decode Y.1 (pc + 1) = .ok (.ifCond .gt off, 3)) (kt : y < x → ya_E X Y Γ t L S G d k n) (kf : ¬ (y < x) → ya_E X Y Γ (pc + 4) L S G d k n) : ya_E X Y Γ pc L (.long y :: .long x :: S) G d k n :=
  ya_lcmp hd1 (ya_ifgt t ht hd (fun c => kt ((lg_cmp_gt x y).mp c)) (fun c => kf (fun e => c ((lg_cmp_gt x y).mpr e))))
theorem ya_lif_le {x y : Int64} {off : Int} (t : Nat) (ht : ((pc + 1 : Nat) : Int) + off = (t : Int)) (hd1 : decode Y.1 pc = .ok (.lcmp, 1)) (hd : decode Y.1 (pc + 1) = .ok (.ifCond .le off, 3)) (kt : x ≤ y → ya_E X Y Γ t L S G d k n) (kf : ¬ (x ≤ y) → ya_E X Y Γ (pc + 4) L S G d k n) : ya_E X Y Γ pc L (.long y :: .long x :: S) G d k n :=
  ya_lcmp hd1 (ya_ifle t ht hd (fun c => kt ((lg_cmp_le x y).mp c)) (fun c => kf (fun e => c ((lg_cmp_le x y).mpr e))))
end
