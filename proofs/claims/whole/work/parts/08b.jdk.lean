/-! The JDK's own methods, as functions -/
def ya_fI (d : ya_D) (a n : Nat) (v : Int32) : Option ya_D := some (fun a' k => if a' = a ∧ k < n then v else d.1 a' k, d.2)
def ya_fL (d : ya_D) (a n : Nat) (v : Int64) : Option ya_D := some (d.1, fun a' k => if a' = a ∧ k < n then v else d.2 a' k)
def ya_bc (v : Int32) : Option Int32 := none
def ya_sl (s : Nat) : Option Int32 := if s < ya_kN then some (Int32.ofNat (ya_klen.getD s 0)) else none
def ya_sc (s : Nat) (i : Int32) : Option Int32 := if s < ya_kN ∧ ¬ (i < 0 ∨ ya_klen.getD s 0 ≤ i.toNatClampNeg) then some ((ya_kbyt.getD s []).getD i.toNatClampNeg 0) else none
def ya_ixF (c : Int32) : List Int32 → Nat → Int32
  | [], _ => -1
  | b :: l, k => if b = c then nI k else ya_ixF c l (k + 1)
def ya_sx (s : Nat) (c : Int32) : Option Int32 := if s < ya_kN ∧ ¬ (c < 0 ∨ (128 : Int32) ≤ c) then some (ya_ixF c (ya_kbyt.getD s []) 0) else none
section
variable {X : ya_X} {Y : ya_Y} {Γ : ya_Γ} {pc : Nat} {L : List (Nat × Value)} {S : List Value} {G : ya_G} {d : ya_D} {k n : Nat}
theorem ya_fillI {a na i : Nat} {v : Int32} {γ : Type} {f : ya_D → Option γ} {rr : γ} (hs : G.2.1 a = (20, na)) (ha : a < G.1) (hlk : Cond.methodLink Y.2.1 i ⟨"java/util/Arrays", "fill", "([II)V"⟩ ∈ lw_g) (hfr : 1 ≤ Y.2.2.2.2.2.frames) (hlo : 24 ≤ Y.2.2.2.2.2.locals) (hcat : (S.map fun v => v.category).sum ≤ 8) (hd : decode Y.1 pc = .ok (.invokestatic i, 3)) (h : (ya_fI d a na v).bind f = some rr)
    (kk : ∀ d', f d' = some rr → ya_E X Y Γ (pc + 3) L S G d' k n) : ya_E X Y Γ pc L (.int v :: .ref (X.2.1 + a) :: S) G d k n := sorry
theorem ya_fillL {a na i : Nat} {v : Int64} {γ : Type} {f : ya_D → Option γ} {rr : γ} (hs : G.2.1 a = (24, na)) (ha : a < G.1) (hlk : Cond.methodLink Y.2.1 i ⟨"java/util/Arrays", "fill", "([JJ)V"⟩ ∈ lw_g) (hfr : 1 ≤ Y.2.2.2.2.2.frames) (hlo : 24 ≤ Y.2.2.2.2.2.locals) (hcat : (S.map fun v => v.category).sum ≤ 8) (hd : decode Y.1 pc = .ok (.invokestatic i, 3)) (h : (ya_fL d a na v).bind f = some rr)
    (kk : ∀ d', f d' = some rr → ya_E X Y Γ (pc + 3) L S G d' k n) : ya_E X Y Γ pc L (.long v :: .ref (X.2.1 + a) :: S) G d k n := sorry
theorem ya_bitc {i : Nat} {v : Int32} {γ : Type} {f : Int32 → Option γ} {rr : γ} (hlk : Cond.methodLink Y.2.1 i ⟨"java/lang/Integer", "bitCount", "(I)I"⟩ ∈ lw_g) (hfr : 1 ≤ Y.2.2.2.2.2.frames) (hlo : 20 ≤ Y.2.2.2.2.2.locals) (hcat : (S.map fun v => v.category).sum ≤ 8) (hd : decode Y.1 pc = .ok (.invokestatic i, 3)) (h : (ya_bc v).bind f = some rr)
    (kk : ∀ x, f x = some rr → ya_E X Y Γ (pc + 3) L (.int x :: S) G d k n) : ya_E X Y Γ pc L (.int v :: S) G d k n := sorry
theorem ya_str_length {i s : Nat} {γ : Type} {f : Int32 → Option γ} {rr : γ} (hlk : Cond.methodLink Y.2.1 i ⟨"java/lang/String", "length", "()I"⟩ ∈ lw_g) (hfr : 2 ≤ Y.2.2.2.2.2.frames) (hlo : 40 ≤ Y.2.2.2.2.2.locals) (hcat : (S.map fun v => v.category).sum ≤ 8) (hd : decode Y.1 pc = .ok (.invokevirtual i, 3)) (h : (ya_sl s).bind f = some rr)
    (kk : ∀ x, f x = some rr → ya_E X Y Γ (pc + 3) L (.int x :: S) G d k n) : ya_E X Y Γ pc L (.ref (X.2.2.2.2.2.2.1 s) :: S) G d k n := sorry
theorem ya_str_charAt {i s : Nat} {j : Int32} {γ : Type} {f : Int32 → Option γ} {rr : γ} (hlk : Cond.methodLink Y.2.1 i ⟨"java/lang/String", "charAt", "(I)C"⟩ ∈ lw_g) (hfr : 2 ≤ Y.2.2.2.2.2.frames) (hlo : 81 ≤ Y.2.2.2.2.2.locals) (hcat : (S.map fun v => v.category).sum ≤ 8) (hd : decode Y.1 pc = .ok (.invokevirtual i, 3)) (h : (ya_sc s j).bind f = some rr)
    (kk : ∀ x, f x = some rr → ya_E X Y Γ (pc + 3) L (.int x :: S) G d k n) : ya_E X Y Γ pc L (.int j :: .ref (X.2.2.2.2.2.2.1 s) :: S) G d k n := sorry
theorem ya_str_indexOf {i s : Nat} {j : Int32} {γ : Type} {f : Int32 → Option γ} {rr : γ} (hlk : Cond.methodLink Y.2.1 i ⟨"java/lang/String", "indexOf", "(I)I"⟩ ∈ lw_g) (hfr : 4 ≤ Y.2.2.2.2.2.frames) (hlo : 181 ≤ Y.2.2.2.2.2.locals) (hcat : (S.map fun v => v.category).sum ≤ 8) (hd : decode Y.1 pc = .ok (.invokevirtual i, 3)) (h : (ya_sx s j).bind f = some rr)
    (kk : ∀ x, f x = some rr → ya_E X Y Γ (pc + 3) L (.int x :: S) G d k n) : ya_E X Y Γ pc L (.int j :: .ref (X.2.2.2.2.2.2.1 s) :: S) G d k n := sorry
end
