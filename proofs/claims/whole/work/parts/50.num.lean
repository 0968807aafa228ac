/-! Numbers: the printed functions on naturals -/
theorem pn_lit (n : Nat) : (OfNat.ofNat n : Int32) = nI n := rfl
theorem pn_mul (a b : Nat) : nI a * nI b = nI (a * b) := (Int32.ofNat_mul a b).symm
theorem pn_sub {a b : Nat} (h : b ≤ a) : nI a - nI b = nI (a - b) := by
  have e := nI_add (a - b) b
  rw [Nat.sub_add_cancel h] at e
  rw [← e, Int32.add_sub_cancel]
theorem pn_rI {d : ya_D} {a n t : Nat} (h : t < n) (hn : n < 2 ^ 31) : ya_rI d a n (nI t) = some (d.1 a t) := by
  unfold ya_rI
  rw [if_neg (nI_in h hn), nI_clamp (Nat.lt_trans h hn)]
theorem pn_rL {d : ya_D} {a n t : Nat} (h : t < n) (hn : n < 2 ^ 31) : ya_rL d a n (nI t) = some (d.2 a t) := by
  unfold ya_rL
  rw [if_neg (nI_in h hn), nI_clamp (Nat.lt_trans h hn)]
theorem pn_wI {d : ya_D} {a n t : Nat} {v : Int32} (h : t < n) (hn : n < 2 ^ 31) : ya_wI d a n (nI t) v = some (ya_sI d a t v) := by
  unfold ya_wI
  rw [if_neg (nI_in h hn), nI_clamp (Nat.lt_trans h hn)]
theorem pn_wL {d : ya_D} {a n t : Nat} {v : Int64} (h : t < n) (hn : n < 2 ^ 31) : ya_wL d a n (nI t) v = some (ya_sL d a t v) := by
  unfold ya_wL
  rw [if_neg (nI_in h hn), nI_clamp (Nat.lt_trans h hn)]
theorem pn_sI (d : ya_D) (a k : Nat) (v : Int32) (a' k' : Nat) : (ya_sI d a k v).1 a' k' = if a' = a ∧ k' = k then v else d.1 a' k' := rfl
theorem pn_sI2 (d : ya_D) (a k : Nat) (v : Int32) : (ya_sI d a k v).2 = d.2 := rfl
theorem pn_sL1 (d : ya_D) (a k : Nat) (v : Int64) : (ya_sL d a k v).1 = d.1 := rfl
theorem pn_sL (d : ya_D) (a k : Nat) (v : Int64) (a' k' : Nat) : (ya_sL d a k v).2 a' k' = if a' = a ∧ k' = k then v else d.2 a' k' := rfl
theorem pn_m1 {a : Nat} (h : a < 2 ^ 31) : nI a ≠ -1 := by
  intro e
  have := congrArg Int32.toInt e
  rw [nI_toInt h, show (-1 : Int32).toInt = -1 from by decide] at this
  omega
theorem pn_m1' {a : Nat} (h : a < 2 ^ 31) : (nI a = -1) = False := eq_false (pn_m1 h)
theorem pn_eq {a b : Nat} (ha : a < 2 ^ 31) (hb : b < 2 ^ 31) : (nI a = nI b) = (a = b) := propext (nI_eq ha hb)
theorem pn_le {a b : Nat} (ha : a < 2 ^ 31) (hb : b < 2 ^ 31) : (nI a ≤ nI b) = (a ≤ b) := propext (nI_leI ha hb)
theorem pn_lt {a b : Nat} (ha : a < 2 ^ 31) (hb : b < 2 ^ 31) : (nI a < nI b) = (a < b) := propext (nI_ltI ha hb)
/-- v is a number of 0 .. n - 1 -/
abbrev pn_ok (v : Int32) (n : Nat) : Prop := 0 ≤ v.toInt ∧ v.toInt < n
theorem pn_ok_ex {v : Int32} {n : Nat} (h : pn_ok v n) : ∃ t, t < n ∧ t < 2 ^ 31 ∧ v = nI t := by
  have h31 : v.toInt < 2 ^ 31 := Int32.toInt_lt v
  have h1 := h.1
  have h2 := h.2
  refine ⟨v.toInt.toNat, by omega, by omega, ?_⟩
  apply Int32.toInt_inj.mp
  rw [nI_toInt (by omega)]
  omega
theorem pn_ok_nI {t n : Nat} (h : t < n) (ht : t < 2 ^ 31) : pn_ok (nI t) n := by
  unfold pn_ok
  rw [nI_toInt ht]
  omega
theorem pn_cl {γ : Type} (v : Int32) {n : Nat} (hn : n < 2 ^ 31) (A B : γ) : (if v < 0 then A else if nI n ≤ v then A else B) = if pn_ok v n then B else A := by
  have e0 : (v < 0) = (v.toInt < 0) := propext (Int32.lt_iff_toInt_lt.trans (by rw [show (0 : Int32).toInt = 0 from by decide]))
  have e1 : (nI n ≤ v) = ((n : Int) ≤ v.toInt) := propext (Int32.le_iff_toInt_le.trans (by rw [nI_toInt hn]))
  simp only [e0, e1, pn_ok]
  by_cases h0 : v.toInt < 0
  · rw [if_pos h0, if_neg (by omega)]
  · rw [if_neg h0]
    by_cases h1 : (n : Int) ≤ v.toInt
    · rw [if_pos h1, if_neg (by omega)]
    · rw [if_neg h1, if_pos (by omega)]
theorem pn_in (v : Int32) {n : Nat} (hn : n < 2 ^ 31) : f_X12_in v.toInt64 0 (nI n - 1).toInt64 = some (if pn_ok v n then 1 else 0) := by
  have e2 : (nI n - 1).toInt = (n : Int) - 1 := by
    rw [Int32.toInt_sub, nI_toInt hn, show (1 : Int32).toInt = 1 from by decide, Int.bmod_def]
    omega
  have e0 : (v.toInt64 < 0) = (v.toInt < 0) := propext (Int64.lt_iff_toInt_lt.trans (by rw [show (0 : Int64).toInt = 0 from by decide, Int32.toInt_toInt64]))
  have e1 : ((nI n - 1).toInt64 < v.toInt64) = ((n : Int) ≤ v.toInt) := propext (Int64.lt_iff_toInt_lt.trans (by rw [Int32.toInt_toInt64, Int32.toInt_toInt64, e2]; omega))
  simp only [f_X12_in, ya_j0, e0, e1, pn_ok]
  by_cases h0 : v.toInt < 0
  · rw [if_pos h0, if_neg (by omega)]
  · rw [if_neg h0]
    by_cases h1 : (n : Int) ≤ v.toInt
    · rw [if_pos h1, if_neg (by omega)]
    · rw [if_neg h1, if_pos (by omega)]
theorem pn_zz (P : Prop) [Decidable P] : ya_zz (if P then 1 else 0) = some (if P then 1 else 0) := by
  unfold ya_zz
  by_cases h : P
  · rw [if_pos h, if_pos (Or.inr rfl)]
  · rw [if_neg h, if_pos (Or.inl rfl)]
theorem pn_le0 (n : Nat) (h : n < 2 ^ 31) : nI n ≤ 0 ↔ n = 0 := by
  have := nI_leI (a := n) (b := 0) h (by decide)
  rw [nI_0] at this
  rw [this]
  omega
