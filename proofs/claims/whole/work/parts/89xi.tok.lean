/-! Market: the tape's tokens, as class and reference see them -/
/-- the end of a run of signs -/
def pr_run (p : Nat → Bool) : Nat → Nat → Nat
  | 0, i => i
  | m + 1, i => if p i = true then pr_run p m (i + 1) else i
def pr_bl (b : Nat → Nat) (i : Nat) : Bool := decide (b i = 32 ∨ b i = 10)
def pr_al (b : Nat → Nat) (i : Nat) : Bool := decide (97 ≤ b i ∧ b i ≤ 122)
def pr_di (b : Nat → Nat) (i : Nat) : Bool := decide (48 ≤ b i ∧ b i ≤ 57)
def pr_e (n : Nat) (b : Nat → Nat) (s : Nat) : Nat := if n ≤ s then s else if pr_al b s = true then pr_run (pr_al b) (n - s) s else if pr_di b s = true then pr_run (pr_di b) (n - s) s else s + 1
def pr_k0 (n : Nat) (b : Nat → Nat) (s : Nat) : Nat := if n ≤ s then 0 else if pr_al b s = true then 1 else if pr_di b s = true then 2 else 3
/-- the first sign of the token behind place i, the place behind it, its kind, its number -/
def pr_S (n : Nat) (b : Nat → Nat) (i : Nat) : Nat := pr_run (pr_bl b) (n - i) i
def pr_E (n : Nat) (b : Nat → Nat) (i : Nat) : Nat := pr_e n b (pr_S n b i)
def pr_k (n : Nat) (b : Nat → Nat) (i : Nat) : Nat := pr_k0 n b (pr_S n b i)
def pr_v (b : Nat → Nat) (s : Nat) : Nat → Nat
  | 0 => 0
  | m + 1 => 10 * pr_v b s m + (b (s + m) - 48)
def pr_V (n : Nat) (b : Nat → Nat) (i : Nat) : Nat := pr_v b (pr_S n b i) (pr_E n b i - pr_S n b i)
theorem pr_run_b (p : Nat → Bool) : ∀ m i, i ≤ pr_run p m i ∧ pr_run p m i ≤ i + m
  | 0, i => ⟨Nat.le_refl _, Nat.le_refl _⟩
  | m + 1, i => by
    have h := pr_run_b p m (i + 1)
    rw [pr_run]
    by_cases c : p i = true
    · rw [if_pos c]; omega
    · rw [if_neg c]; omega
theorem pr_S_b {n : Nat} {b : Nat → Nat} {i : Nat} (h : i ≤ n) : i ≤ pr_S n b i ∧ pr_S n b i ≤ n := by
  have := pr_run_b (pr_bl b) (n - i) i
  unfold pr_S; omega
theorem pr_e_b {n : Nat} {b : Nat → Nat} {s : Nat} (h : s ≤ n) : s ≤ pr_e n b s ∧ pr_e n b s ≤ n ∧ (pr_k0 n b s ≠ 0 → s < pr_e n b s) := by
  unfold pr_e pr_k0
  by_cases c : n ≤ s
  · rw [if_pos c, if_pos c]; exact ⟨Nat.le_refl _, h, fun z => absurd rfl z⟩
  · rw [if_neg c, if_neg c]
    have run : ∀ p : Nat → Bool, p s = true → s + 1 ≤ pr_run p (n - s) s ∧ pr_run p (n - s) s ≤ n := fun p q => by
      obtain ⟨m, hm⟩ : ∃ m, n - s = m + 1 := ⟨n - s - 1, by omega⟩
      have := pr_run_b p m (s + 1)
      rw [hm, pr_run, if_pos q]; omega
    by_cases c1 : pr_al b s = true
    · rw [if_pos c1, if_pos c1]; have := run _ c1; exact ⟨by omega, by omega, fun _ => by omega⟩
    · rw [if_neg c1, if_neg c1]
      by_cases c2 : pr_di b s = true
      · rw [if_pos c2, if_pos c2]; have := run _ c2; exact ⟨by omega, by omega, fun _ => by omega⟩
      · rw [if_neg c2, if_neg c2]; exact ⟨by omega, by omega, fun _ => by omega⟩
theorem pr_E_b {n : Nat} {b : Nat → Nat} {i : Nat} (h : i ≤ n) : i ≤ pr_S n b i ∧ pr_S n b i ≤ n ∧ pr_S n b i ≤ pr_E n b i ∧ pr_E n b i ≤ n ∧ (pr_k n b i ≠ 0 → pr_S n b i < pr_E n b i) := by
  have h1 := pr_S_b (b := b) h
  have h2 := pr_e_b (b := b) h1.2
  exact ⟨h1.1, h1.2, h2.1, h2.2.1, h2.2.2⟩
/-- the tape of the class, of the reference -/
def pr_tp (d : ya_D) (n : Nat) (b : Nat → Nat) : Prop := n ≤ 2000 ∧ d.1 1 1 = nI n ∧ ∀ j, j < n → b j < 256 ∧ d.1 2 j = nI (b j)
def pr_tr (e : ya_D) (n : Nat) (b : Nat → Nat) : Prop := n ≤ 2000 ∧ e.1 83 7 = nI n ∧ ∀ j, j < n → b j < 256 ∧ e.1 87 j = (nI (b j)).toInt8.toInt32
theorem pr_c1 : ∀ c, c < 256 → f_X9_isBlank (nI c) = some (if c = 32 ∨ c = 10 then 1 else 0) := by decide +kernel
theorem pr_c2 : ∀ c, c < 256 → f_X9_isLetter (nI c) = some (if 97 ≤ c ∧ c ≤ 122 then 1 else 0) := by decide +kernel
theorem pr_c3 : ∀ c, c < 256 → f_X9_isDigit (nI c) = some (if 48 ≤ c ∧ c ≤ 57 then 1 else 0) := by decide +kernel
theorem pr_r1 : ∀ c, c < 256 → ((nI c).toInt8.toInt32 &&& 255) = nI c := by decide +kernel
theorem pr_r2 : ∀ c, c < 256 → f_X12_in ((nI c).toInt64) 97 122 = some (if 97 ≤ c ∧ c ≤ 122 then 1 else 0) := by decide +kernel
theorem pr_r3 : ∀ c, c < 256 → f_X12_in ((nI c).toInt64) 48 57 = some (if 48 ≤ c ∧ c ≤ 57 then 1 else 0) := by decide +kernel
theorem pr_r4 : f_X12_in ((-1 : Int32).toInt64) 97 122 = some 0 := by decide +kernel
theorem pr_r5 : f_X12_in ((-1 : Int32).toInt64) 48 57 = some 0 := by decide +kernel
theorem pr_ite {c : Bool} {P : Prop} [Decidable P] (h : c = decide P) (A B : Option ya_D) : (if (if P then (1 : Int32) else 0) = 0 then A else B) = if c = true then B else A := by
  subst h
  by_cases q : P
  · rw [if_pos q, if_neg pn_10, if_pos (decide_eq_true q)]
  · rw [if_neg q, if_pos rfl, if_neg (by rw [decide_eq_false q]; decide)]
theorem pr_num {K w c : Nat} (hK : K ≤ 1000000) (h1 : 48 ≤ c) (h2 : c ≤ 57) : ya_min (nI K) ((((10 : Int32) * nI (min K w)) + nI c) - 48) = nI (min K (10 * w + (c - 48))) := by
  rw [show (10 : Int32) = nI 10 from rfl, show (48 : Int32) = nI 48 from rfl, pn_mul, nI_add, pn_sub (by omega), pm_min (by omega) (by omega)]
  exact congrArg nI (by omega)
section
variable {n : Nat} {b : Nat → Nat} {E : ya_D → Option ya_D}
theorem pr_tp_c {d d' : ya_D} (h : pr_tp d n b) (h1 : d'.1 1 1 = d.1 1 1) (h2 : ∀ j, d'.1 2 j = d.1 2 j) : pr_tp d' n b := ⟨h.1, h1.trans h.2.1, fun j hj => ⟨(h.2.2 j hj).1, (h2 j).trans (h.2.2 j hj).2⟩⟩
theorem pr_tr_c {d d' : ya_D} (h : pr_tr d n b) (h1 : d'.1 83 7 = d.1 83 7) (h2 : ∀ j, d'.1 87 j = d.1 87 j) : pr_tr d' n b := ⟨h.1, h1.trans h.2.1, fun j hj => ⟨(h.2.2 j hj).1, (h2 j).trans (h.2.2 j hj).2⟩⟩
/-- the class skips blanks -/
theorem pr_l13 : ∀ m i fu (d : ya_D), m = n - i → i ≤ n → m < fu → pr_tp d n b → d.1 22 1 = nI i → ∃ d', f_X9_next_L13 E fu (nI i) d = E d' ∧ d'.1 22 1 = nI (pr_run (pr_bl b) m i) ∧ d'.2 = d.2 ∧ ∀ a z, (a ≠ 22 ∨ z ≠ 1) → d'.1 a z = d.1 a z
  | m, i, 0, d, _, _, hf, _, _ => absurd hf (Nat.not_lt_zero m)
  | 0, i, fu + 1, d, hm, hi, hf, ht, h => by
    rw [f_X9_next_L13, ht.2.1, if_pos (nI_le (by omega) (by have := ht.1; omega))]
    exact ⟨d, rfl, h, rfl, fun _ _ _ => rfl⟩
  | m + 1, i, fu + 1, d, hm, hi, hf, ht, h => by
    have hn := ht.1
    have hin : i < n := by omega
    rw [f_X9_next_L13, ht.2.1, if_neg (nI_ge hin (by omega)), pn_rI (by omega) (by omega), pb_s, (ht.2.2 i hin).2, pr_c1 _ (ht.2.2 i hin).1, pb_s, pr_ite (c := pr_bl b i) rfl, pr_run]
    by_cases c : pr_bl b i = true
    · rw [if_pos c, if_pos c, pb_pI, pb_s, nI_1]
      obtain ⟨d', A1, A2, A3, A4⟩ := pr_l13 m (i + 1) fu (ya_sI d 22 1 (nI (i + 1))) (by omega) (by omega) (by omega) (pr_tp_c ht (pn_o (by omega)) (fun j => pn_o (by omega))) (pn_e ⟨rfl, rfl⟩)
      exact ⟨d', A1, A2, A3, fun a z q => by rw [A4 a z q, pn_o (by omega)]⟩
    · rw [if_neg c, if_neg c]
      exact ⟨d, rfl, h, rfl, fun _ _ _ => rfl⟩
/-- the class reads a word -/
theorem pr_l103 : ∀ m i fu (d : ya_D), m = n - i → i ≤ n → m < fu → pr_tp d n b → (d.1 22 2 = nI i ∨ (m ≠ 0 ∧ pr_al b i = true)) → ∃ d', f_X9_next_L103 E fu (nI i) d = E d' ∧ d'.1 22 2 = nI (pr_run (pr_al b) m i) ∧ d'.2 = d.2 ∧ ∀ a z, (a ≠ 22 ∨ z ≠ 2) → d'.1 a z = d.1 a z
  | m, i, 0, d, _, _, hf, _, _ => absurd hf (Nat.not_lt_zero m)
  | 0, i, fu + 1, d, hm, hi, hf, ht, h => by
    rw [f_X9_next_L103, ht.2.1, if_pos (nI_le (by omega) (by have := ht.1; omega))]
    exact ⟨d, rfl, h.elim id (fun q => absurd rfl q.1), rfl, fun _ _ _ => rfl⟩
  | m + 1, i, fu + 1, d, hm, hi, hf, ht, h => by
    have hn := ht.1
    have hin : i < n := by omega
    rw [f_X9_next_L103, ht.2.1, if_neg (nI_ge hin (by omega)), pn_rI (by omega) (by omega), pb_s, (ht.2.2 i hin).2, pr_c2 _ (ht.2.2 i hin).1, pb_s, pr_ite (c := pr_al b i) rfl, pr_run]
    by_cases c : pr_al b i = true
    · rw [if_pos c, if_pos c, pb_pI, pb_s, nI_1]
      obtain ⟨d', A1, A2, A3, A4⟩ := pr_l103 m (i + 1) fu (ya_sI d 22 2 (nI (i + 1))) (by omega) (by omega) (by omega) (pr_tp_c ht (pn_o (by omega)) (fun j => pn_o (by omega))) (Or.inl (pn_e ⟨rfl, rfl⟩))
      exact ⟨d', A1, A2, A3, fun a z q => by rw [A4 a z q, pn_o (by omega)]⟩
    · rw [if_neg c, if_neg c]
      exact ⟨d, rfl, h.elim id (fun q => absurd q.2 c), rfl, fun _ _ _ => rfl⟩
/-- the class reads a number -/
theorem pr_l156 {s : Nat} : ∀ m i fu (d : ya_D), m = n - i → i ≤ n → s ≤ i → m < fu → pr_tp d n b → (d.1 22 2 = nI i ∨ (m ≠ 0 ∧ pr_di b i = true)) → d.1 22 3 = nI (min 1000000 (pr_v b s (i - s))) → ∃ d', f_X9_next_L156 E fu (nI i) d = E d' ∧ d'.1 22 2 = nI (pr_run (pr_di b) m i) ∧ d'.1 22 3 = nI (min 1000000 (pr_v b s (pr_run (pr_di b) m i - s))) ∧ d'.2 = d.2 ∧ ∀ a z, (a ≠ 22 ∨ (z ≠ 2 ∧ z ≠ 3)) → d'.1 a z = d.1 a z
  | m, i, 0, d, _, _, _, hf, _, _, _ => absurd hf (Nat.not_lt_zero m)
  | 0, i, fu + 1, d, hm, hi, hs, hf, ht, h, h3 => by
    rw [f_X9_next_L156, ht.2.1, if_pos (nI_le (by omega) (by have := ht.1; omega))]
    exact ⟨d, rfl, h.elim id (fun q => absurd rfl q.1), h3, rfl, fun _ _ _ => rfl⟩
  | m + 1, i, fu + 1, d, hm, hi, hs, hf, ht, h, h3 => by
    have hn := ht.1
    have hin : i < n := by omega
    rw [f_X9_next_L156, ht.2.1, if_neg (nI_ge hin (by omega)), pn_rI (by omega) (by omega), pb_s, (ht.2.2 i hin).2, pr_c3 _ (ht.2.2 i hin).1, pb_s, pr_ite (c := pr_di b i) rfl, pr_run]
    by_cases c : pr_di b i = true
    · have c' := of_decide_eq_true c
      rw [if_pos c, if_pos c, pb_s, h3, show (1000000 : Int32) = nI 1000000 from rfl, pr_num (by omega) c'.1 c'.2, pb_pI, pb_s, pb_pI, pb_s, nI_1]
      obtain ⟨d', A1, A2, A5, A3, A4⟩ := pr_l156 (s := s) m (i + 1) fu (ya_sI (ya_sI d 22 3 (nI (min 1000000 (10 * pr_v b s (i - s) + (b i - 48))))) 22 2 (nI (i + 1))) (by omega) (by omega) (by omega) (by omega) (pr_tp_c ht (by rw [pn_o (by omega), pn_o (by omega)]) (fun j => by rw [pn_o (by omega), pn_o (by omega)])) (Or.inl (pn_e ⟨rfl, rfl⟩)) (by
        rw [pn_o (by omega), pn_e ⟨rfl, rfl⟩, show i + 1 - s = i - s + 1 by omega, pr_v, show s + (i - s) = i by omega])
      exact ⟨d', A1, A2, A5, A3, fun a z q => by rw [A4 a z q, pn_o (by omega), pn_o (by omega)]⟩
    · rw [if_neg c, if_neg c]
      exact ⟨d, rfl, h.elim id (fun q => absurd q.2 c), h3, rfl, fun _ _ _ => rfl⟩
/-- the class's token -/
def pr_cK (n : Nat) (b : Nat → Nat) (d : ya_D) (i : Nat) : Prop := d.1 22 0 = nI (pr_k n b i) ∧ d.1 22 1 = nI (pr_S n b i) ∧ d.1 22 2 = nI (pr_E n b i) ∧ (pr_k n b i = 2 → d.1 22 3 = nI (min 1000000 (pr_V n b i)))
theorem pr_next {d : ya_D} {i : Nat} (ht : pr_tp d n b) (hi : i ≤ n) (h : d.1 22 2 = nI i) : ∃ d', f_X9_next d = some d' ∧ pr_cK n b d' i ∧ d'.2 = d.2 ∧ ∀ a z, a ≠ 22 → d'.1 a z = d.1 a z := by
  have hn := ht.1
  have hS := pr_S_b (b := b) hi
  have hq : (ya_sI d 22 1 (nI i)).1 22 2 = nI i := by rw [pn_o (by omega)]; exact h
  rw [f_X9_next, pb_pI, pb_s, h, hq]
  obtain ⟨d1, A1, A2, A3, A4⟩ := pr_l13 (E := fun (d_46 : ya_D) =>
    (ya_pI d_46 22 2 (d_46.1 22 1)).bind fun d51 =>
    (ya_pI d51 22 3 0).bind fun d56 =>
    if (d56.1 22 1) < (d56.1 1 1) then
      (ya_rI d56 2 2000 (d56.1 22 1)).bind fun x84 =>
      (f_X9_isLetter x84).bind fun x87 =>
      if x87 = 0 then
        (f_X9_isDigit x84).bind fun x140 =>
        if x140 = 0 then
          (ya_pI d56 22 0 3).bind fun d220 =>
          (ya_pI d220 22 2 ((d220.1 22 1) + 1)).bind fun d230 =>
          some d230
        else
        (ya_pI d56 22 0 2).bind fun d148 =>
        f_X9_next_L156  (fun (d_215 : ya_D) =>
          some d_215) ya_F (d148.1 22 1) d148
      else
      (ya_pI d56 22 0 1).bind fun d95 =>
      f_X9_next_L103  (fun (d_136 : ya_D) =>
        some d_136) ya_F (d95.1 22 1) d95
    else
    (ya_pI d56 22 0 0).bind fun d72 =>
    some d72) (n - i) i ya_F (ya_sI d 22 1 (nI i)) rfl hi (by rw [ya_F]; omega) (pr_tp_c ht (pn_o (by omega)) (fun j => pn_o (by omega))) (pn_e ⟨rfl, rfl⟩)
  rw [A1]
  obtain ⟨s, hs⟩ : ∃ s, s = pr_S n b i := ⟨_, rfl⟩
  have A2' : d1.1 22 1 = nI s := by rw [A2, hs]; rfl
  have F1 : ∀ a z, a ≠ 22 → d1.1 a z = d.1 a z := fun a z q => by rw [A4 a z (Or.inl q), pn_o (Or.inl q)]
  obtain ⟨g, hg⟩ : ∃ g, g = ya_sI (ya_sI d1 22 2 (nI s)) 22 3 0 := ⟨_, rfl⟩
  have g1 : g.1 22 1 = nI s := by rw [hg, pn_o (by omega), pn_o (by omega), A2']
  have g2 : g.1 22 2 = nI s := by rw [hg, pn_o (by omega), pn_e ⟨rfl, rfl⟩]
  have g3 : g.1 22 3 = nI 0 := by rw [hg, pn_e ⟨rfl, rfl⟩]; rfl
  have gF : ∀ a z, a ≠ 22 → g.1 a z = d.1 a z := fun a z q => by rw [hg, pn_o (Or.inl q), pn_o (Or.inl q), F1 a z q]
  have g0 : g.2 = d.2 := by rw [hg, pn_sI2, pn_sI2, A3, pn_sI2]
  have gt : pr_tp g n b := pr_tp_c ht (gF _ _ (by omega)) (fun j => gF _ _ (by omega))
  rw [A2', pb_pI, pb_s, pb_pI, pb_s, ← hg, g1, gt.2.1]
  unfold pr_cK pr_V
  have eE : pr_E n b i = pr_e n b s := by rw [hs]; rfl
  have ek : pr_k n b i = pr_k0 n b s := by rw [hs]; rfl
  rw [eE, ek, ← hs]
  unfold pr_e pr_k0
  by_cases c : n ≤ s
  · rw [if_pos c, if_pos c, if_neg (by rw [pn_lt (by omega) (by omega)]; omega), pb_pI, pb_s]
    exact ⟨_, rfl, ⟨pn_e ⟨rfl, rfl⟩, by rw [pn_o (by omega), g1], by rw [pn_o (by omega), g2], fun q => absurd q (by decide)⟩, g0, fun a z q => by rw [pn_o (Or.inl q), gF a z q]⟩
  · have hsn : s < n := by omega
    rw [if_neg c, if_neg c, if_pos (by rw [pn_lt (by omega) (by omega)]; omega), pn_rI (by omega) (by omega), pb_s, (gt.2.2 s hsn).2, pr_c2 _ (gt.2.2 s hsn).1, pb_s, pr_ite (c := pr_al b s) rfl]
    by_cases c1 : pr_al b s = true
    · rw [if_pos c1, if_pos c1, if_pos c1, pb_pI, pb_s, show (ya_sI g 22 0 1).1 22 1 = nI s by rw [pn_o (by omega), g1]]
      obtain ⟨d', B1, B2, B3, B4⟩ := pr_l103 (E := fun d => some d) (n - s) s ya_F (ya_sI g 22 0 1) rfl (by omega) (by rw [ya_F]; omega) (pr_tp_c gt (pn_o (by omega)) (fun j => pn_o (by omega))) (Or.inl (by rw [pn_o (by omega), g2]))
      exact ⟨d', B1, ⟨by rw [B4 _ _ (by omega)]; exact pn_e ⟨rfl, rfl⟩, by rw [B4 _ _ (by omega), pn_o (by omega), g1], B2, fun q => absurd q (by decide)⟩, by rw [B3, pn_sI2, g0], fun a z q => by rw [B4 a z (Or.inl q), pn_o (Or.inl q), gF a z q]⟩
    · rw [if_neg c1, if_neg c1, if_neg c1, pr_c3 _ (gt.2.2 s hsn).1, pb_s, pr_ite (c := pr_di b s) rfl]
      by_cases c2 : pr_di b s = true
      · rw [if_pos c2, if_pos c2, if_pos c2, pb_pI, pb_s, show (ya_sI g 22 0 2).1 22 1 = nI s by rw [pn_o (by omega), g1]]
        obtain ⟨d', B1, B2, B5, B3, B4⟩ := pr_l156 (s := s) (E := fun d => some d) (n - s) s ya_F (ya_sI g 22 0 2) rfl (by omega) (Nat.le_refl _) (by rw [ya_F]; omega) (pr_tp_c gt (pn_o (by omega)) (fun j => pn_o (by omega))) (Or.inl (by rw [pn_o (by omega), g2])) (by rw [pn_o (by omega), g3, Nat.sub_self]; rfl)
        exact ⟨d', B1, ⟨by rw [B4 _ _ (by omega)]; exact pn_e ⟨rfl, rfl⟩, by rw [B4 _ _ (by omega), pn_o (by omega), g1], B2, fun q => B5⟩, by rw [B3, pn_sI2, g0], fun a z q => by rw [B4 a z (Or.inl q), pn_o (Or.inl q), gF a z q]⟩
      · rw [if_neg c2, if_neg c2, if_neg c2, pb_pI, pb_s, show (ya_sI g 22 0 3).1 22 1 = nI s by rw [pn_o (by omega), g1], pb_pI, pb_s, nI_1]
        exact ⟨_, rfl, ⟨by rw [pn_o (by omega)]; exact pn_e ⟨rfl, rfl⟩, by rw [pn_o (by omega), pn_o (by omega), g1], pn_e ⟨rfl, rfl⟩, fun q => absurd q (by decide)⟩, g0, fun a z q => by rw [pn_o (Or.inl q), pn_o (Or.inl q), gF a z q]⟩
end
