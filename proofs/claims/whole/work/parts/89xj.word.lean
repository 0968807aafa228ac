/-! Market: words and numbers -/
abbrev pr_is (b : Nat → Nat) (s e : Nat) (w : List Nat) : Prop := e - s = w.length ∧ ∀ j, j < w.length → b (s + j) = w.getD j 0
/-- w stands in text q from place x on -/
abbrev pr_sl (q x : Nat) (w : List Nat) : Prop := q < ya_kN ∧ x + w.length ≤ ya_klen.getD q 0 ∧ ∀ j, j < w.length → w.getD j 0 < 128 ∧ (ya_kbyt.getD q []).getD (x + j) 0 = nI (w.getD j 0)
theorem pr_kl : ∀ q, q < ya_kN → ya_klen.getD q 0 < 100 := by decide +kernel
theorem pr_sle {q : Nat} (h : q < ya_kN) : ya_sl q = some (nI (ya_klen.getD q 0)) := by unfold ya_sl; rw [if_pos h]; rfl
theorem pr_sce {q x : Nat} (h : q < ya_kN) (hx : x < ya_klen.getD q 0) : ya_sc q (nI x) = some ((ya_kbyt.getD q []).getD x 0) := by
  have := pr_kl q h
  unfold ya_sc
  rw [nI_clamp (by omega), if_pos ⟨h, fun c => c.elim (fun z => by rw [pt_z32, nI_toInt (by omega)] at z; omega) (fun z => by omega)⟩]
theorem pr_ne {b : Nat → Nat} {s e : Nat} {w w' : List Nat} (h : pr_is b s e w) (h' : pr_is b s e w') : w = w' := by
  apply List.ext_getElem (by rw [← h.1, ← h'.1])
  intro j h1 h2
  have a1 := h.2 j h1
  have a2 := h'.2 j h2
  rw [List.getD_eq_getElem?_getD, List.getElem?_eq_getElem h1, Option.getD_some] at a1
  rw [List.getD_eq_getElem?_getD, List.getElem?_eq_getElem h2, Option.getD_some] at a2
  exact a1.symm.trans a2
section
variable {n : Nat} {b : Nat → Nat}
theorem pr_isL {d : ya_D} {q x S : Nat} {w : List Nat} (ht : pr_tp d n b) (hw : pr_sl q x w) (h1 : d.1 22 1 = nI S) (hS : S + w.length ≤ n) : ∀ m j fu, j + m = w.length → m < fu → (∀ k, k < j → b (S + k) = w.getD k 0) → ∃ r : Bool, f_X9_isAs_L30 q (nI x) (nI (x + w.length)) d fu (nI j) = some (if r = true then 1 else 0) ∧ (r = true ↔ ∀ k, k < w.length → b (S + k) = w.getD k 0)
  | m, j, 0, _, hf, _ => absurd hf (Nat.not_lt_zero m)
  | 0, j, fu + 1, hj, _, hp => by
    have hn := ht.1
    have hl := pr_kl q hw.1
    have hx := hw.2.1
    refine ⟨true, ?_, fun _ k hk => hp k (by omega), fun _ => rfl⟩
    rw [f_X9_isAs_L30, pn_sub (by omega), if_pos (by rw [pn_le (by omega) (by omega)]; omega), if_pos rfl]
  | m + 1, j, fu + 1, hj, hf, hp => by
    have hn := ht.1
    have hl := pr_kl q hw.1
    have hx := hw.2.1
    obtain ⟨w1, w2⟩ := hw.2.2 j (by omega)
    have hb := ht.2.2 (S + j) (by omega)
    rw [f_X9_isAs_L30, pn_sub (by omega), if_neg (by rw [pn_le (by omega) (by omega)]; omega), h1, nI_add, pn_rI (by omega) (by omega), pb_s, hb.2, nI_add, pr_sce hw.1 (by omega), pb_s, w2]
    by_cases c : b (S + j) = w.getD j 0
    · rw [if_pos (by rw [c]), nI_1]
      exact pr_isL ht hw h1 hS m (j + 1) fu (by omega) (by omega) (fun k hk => by
        by_cases z : k = j
        · rw [z]; exact c
        · exact hp k (by omega))
    · rw [if_neg (by rw [pn_eq (by omega) (by omega)]; exact c)]
      exact ⟨false, by rw [if_neg Bool.false_ne_true], fun z => absurd z Bool.false_ne_true, fun z => absurd (z j (by omega)) c⟩
theorem pr_isAs {d : ya_D} {q x S E : Nat} {w : List Nat} (ht : pr_tp d n b) (hw : pr_sl q x w) (h1 : d.1 22 1 = nI S) (h2 : d.1 22 2 = nI E) (hS : S ≤ E) (hE : E ≤ n) {y : Int32} (hy : y = nI (x + w.length)) : f_X9_isAs q (nI x) y d = some (if pr_is b S E w then 1 else 0) := by
  subst hy
  have hn := ht.1
  have hl := pr_kl q hw.1
  have hx := hw.2.1
  rw [f_X9_isAs, h1, h2, pn_sub hS, pn_sub (by omega), Nat.add_sub_cancel_left]
  by_cases c : E - S = w.length
  · obtain ⟨r, r1, r2⟩ := pr_isL ht hw h1 (by omega) w.length 0 ya_F (Nat.zero_add _) (by rw [ya_F]; omega) (fun k hk => absurd hk (Nat.not_lt_zero k))
    rw [if_pos (by rw [c]), pr_sle hw.1, pb_s, if_pos (by rw [pn_le (by omega) (by omega)]; omega)]
    refine r1.trans (congrArg some ?_)
    by_cases z : r = true
    · rw [if_pos z, if_pos ⟨c, r2.1 z⟩]
    · rw [if_neg z, if_neg (fun y => z (r2.2 y.2))]
  · rw [if_neg (by rw [pn_eq (by omega) (by omega)]; exact c), if_neg (fun z => c z.1)]
/-! the reference -/
theorem pr_bs : ∀ w, w < 128 → (nI w).toInt8.toInt32 = nI w := by decide +kernel
theorem pr_by {c w : Nat} (hc : c < 256) (hw : w < 128) : ((nI c).toInt8.toInt32 = nI w) = (c = w) := by
  apply propext
  constructor
  · intro h
    have h1 := congrArg (fun z : Int32 => z &&& 255) h
    rw [pr_r1 c hc] at h1
    have h2 := pr_r1 w (by omega)
    rw [pr_bs w hw] at h2
    rw [h2] at h1
    rwa [pn_eq (by omega) (by omega)] at h1
  · rintro rfl; exact pr_bs c hw
def pr_kr (n : Nat) (b : Nat → Nat) (i : Nat) : Nat := if pr_k n b i = 3 then (if b (pr_S n b i) = 59 then 3 else 4) else pr_k n b i
/-- the reference's token, read ahead -/
def pr_rK (n : Nat) (b : Nat → Nat) (e : ya_D) (i : Nat) : Prop := e.1 83 8 = nI (pr_E n b i) ∧ e.1 83 9 = nI (pr_S n b i) ∧ e.1 83 10 = nI (pr_kr n b i) ∧ (pr_k n b i = 2 → e.1 83 11 = nI (min 99999 (pr_V n b i)))
theorem pr_isR {e : ya_D} {q S : Nat} {w : List Nat} (ht : pr_tr e n b) (hw : pr_sl q 0 w) (hl : ya_klen.getD q 0 = w.length) (h1 : e.1 83 9 = nI S) (hS : S + w.length ≤ n) : ∀ m j fu, j + m = w.length → m < fu → (∀ k, k < j → b (S + k) = w.getD k 0) → ∃ r : Bool, f_X12_is_L39 q e fu 1 (nI j) = some (if r = true then 1 else 0) ∧ (r = true ↔ ∀ k, k < w.length → b (S + k) = w.getD k 0)
  | m, j, 0, _, hf, _ => absurd hf (Nat.not_lt_zero m)
  | 0, j, fu + 1, hj, _, hp => by
    have hn := ht.1
    have hk := pr_kl q hw.1
    refine ⟨true, ?_, fun _ k hk => hp k (by omega), fun _ => rfl⟩
    rw [f_X12_is_L39, pr_sle hw.1, pb_s, if_pos (by rw [pn_le (by omega) (by omega)]; omega), if_pos rfl]; rfl
  | m + 1, j, fu + 1, hj, hf, hp => by
    have hn := ht.1
    have hk := pr_kl q hw.1
    obtain ⟨w1, w2⟩ := hw.2.2 j (by omega)
    rw [Nat.zero_add] at w2
    have hb := ht.2.2 (S + j) (by omega)
    rw [f_X12_is_L39, pr_sle hw.1, pb_s, if_neg (by rw [pn_le (by omega) (by omega)]; omega), if_neg pn_10, h1, nI_add, pn_rI (by omega) (by omega), pb_s, hb.2, pr_sce hw.1 (by omega), pb_s, w2, pj_1]
    by_cases c : b (S + j) = w.getD j 0
    · rw [if_pos (by rw [pr_by hb.1 w1]; exact c), nI_1]
      exact pr_isR ht hw hl h1 hS m (j + 1) fu (by omega) (by omega) (fun k hk => by
        by_cases z : k = j
        · rw [z]; exact c
        · exact hp k (by omega))
    · rw [if_neg (by rw [pr_by hb.1 w1]; exact c)]
      refine ⟨false, ?_, fun z => absurd z Bool.false_ne_true, fun z => absurd (z j (by omega)) c⟩
      rw [if_neg Bool.false_ne_true]
      obtain ⟨fu, rfl⟩ : ∃ g, fu = g + 1 := ⟨fu - 1, by omega⟩
      dsimp only
      rw [f_X12_is_L39, pr_sle hw.1, pb_s, if_pos rfl]
      by_cases z : nI (ya_klen.getD q 0) ≤ nI j + 1
      · rw [if_pos z]; rfl
      · rw [if_neg z]; rfl
theorem pr_good {e : ya_D} : f_X12_good e = some (if e.1 83 12 = 0 then 1 else 0) := by
  unfold f_X12_good
  by_cases c : e.1 83 12 = 0
  · rw [if_pos c, if_pos c]
  · rw [if_neg c, if_neg c]
theorem pr_is0 {e : ya_D} {q : Nat} (hq : q < ya_kN) {fu : Nat} {j : Int32} : f_X12_is_L39 q e (fu + 1) 0 j = some 0 := by
  rw [f_X12_is_L39, pr_sle hq, pb_s, if_pos rfl]
  by_cases z : nI (ya_klen.getD q 0) ≤ j
  · rw [if_pos z]; rfl
  · rw [if_neg z]; rfl
theorem pr_iF : ya_F = 9999 + 1 := rfl
/-- letters alone -/
abbrev pr_lw (q : Nat) (w : List Nat) : Prop := pr_sl q 0 w ∧ ya_klen.getD q 0 = w.length ∧ w ≠ [] ∧ 97 ≤ w.getD 0 0 ∧ w.getD 0 0 ≤ 122
theorem pr_k1 {i : Nat} {w : List Nat} (hi : i ≤ n) (h0 : w ≠ []) (h1 : 97 ≤ w.getD 0 0) (h2 : w.getD 0 0 ≤ 122) (h : pr_is b (pr_S n b i) (pr_E n b i) w) : pr_k n b i = 1 := by
  have hl : 0 < w.length := List.length_pos_iff.2 h0
  have hE := pr_E_b (b := b) hi
  have z := h.2 0 hl
  rw [Nat.add_zero] at z
  unfold pr_k pr_k0
  rw [if_neg (by have := h.1; omega), if_pos (by unfold pr_al; rw [z]; exact decide_eq_true ⟨h1, h2⟩)]
theorem pr_rIs {e : ya_D} {q i : Nat} {w : List Nat} (ht : pr_tr e n b) (hw : pr_lw q w) (hi : i ≤ n) (hg : e.1 83 12 = 0) (hK : pr_rK n b e i) : f_X12_is q e = some (if pr_is b (pr_S n b i) (pr_E n b i) w then 1 else 0) := by
  have hn := ht.1
  have hk := pr_kl q hw.1.1
  have hE := pr_E_b (b := b) hi
  obtain ⟨k1, k2, k3, k4⟩ := hK
  have hkr : pr_kr n b i < 5 := by
    unfold pr_kr pr_k pr_k0
    repeat' split
    all_goals omega
  rw [f_X12_is, pr_good, if_pos hg, pb_s, pj_1, pj_0, if_neg pn_10, k3, k1, k2, pn_sub (by omega)]
  by_cases c : pr_k n b i = 1
  · have c' : pr_kr n b i = 1 := by unfold pr_kr; rw [c, if_neg (by decide)]
    rw [c', if_pos (show nI 1 = 1 from rfl), pr_sle hw.1.1, pb_s, hw.2.1]
    by_cases c2 : pr_E n b i - pr_S n b i = w.length
    · rw [if_pos (by rw [c2])]
      obtain ⟨r, r1, r2⟩ := pr_isR ht hw.1 hw.2.1 k2 (by omega) w.length 0 ya_F (Nat.zero_add _) (by rw [ya_F]; have := hw.2.1; omega) (fun k hk => absurd hk (Nat.not_lt_zero k))
      refine r1.trans (congrArg some ?_)
      by_cases z : r = true
      · rw [if_pos z, if_pos ⟨c2, r2.1 z⟩]
      · rw [if_neg z, if_neg (fun y => z (r2.2 y.2))]
    · rw [if_neg (by rw [pn_eq (by omega) (by have := hw.2.1; omega)]; exact c2), if_neg (fun z => c2 z.1), pr_iF]
      exact pr_is0 hw.1.1
  · have c' : pr_kr n b i ≠ 1 := by
      unfold pr_kr
      repeat' split
      all_goals omega
    rw [if_neg (by rw [show (1 : Int32) = nI 1 from rfl, pn_eq (by omega) (by omega)]; exact c'), if_neg (fun z => c (pr_k1 hi hw.2.2.1 hw.2.2.2.1 hw.2.2.2.2 z)), pr_iF]
    exact pr_is0 hw.1.1
theorem pr_rIs0 {e : ya_D} {q : Nat} (hq : q < ya_kN) (hg : ¬ e.1 83 12 = 0) : f_X12_is q e = some 0 := by
  rw [f_X12_is, pr_good, if_neg hg, pb_s, pj_1, pj_0, if_pos rfl, pr_iF]
  exact pr_is0 hq
/-! the reference reads on -/
variable {E : ya_D → Option ya_D}
theorem pr_see {e : ya_D} {i : Nat} (ht : pr_tr e n b) (hi : i ≤ n) : f_X12_see (nI i) e = some (if i < n then nI (b i) else -1) := by
  have hn := ht.1
  rw [f_X12_see, ht.2.1]
  by_cases c : i < n
  · rw [if_neg (nI_ge c (by omega)), if_pos c, pn_rI (by omega) (by omega), pb_s, (ht.2.2 i c).2, pr_r1 _ (ht.2.2 i c).1]
  · rw [if_pos (nI_le (by omega) (by omega)), if_neg c]
theorem pr_r0 : ∀ m i fu (d : ya_D), m = n - i → i ≤ n → m < fu → pr_tr d n b → d.1 83 8 = nI i → ∃ d', f_X12_advance_L0 E fu d = E d' ∧ d'.1 83 8 = nI (pr_run (pr_bl b) m i) ∧ d'.2 = d.2 ∧ ∀ a z, (a ≠ 83 ∨ z ≠ 8) → d'.1 a z = d.1 a z
  | m, i, 0, d, _, _, hf, _, _ => absurd hf (Nat.not_lt_zero m)
  | 0, i, fu + 1, d, hm, hi, hf, ht, h => by
    rw [f_X12_advance_L0, h, pr_see ht hi, pb_s, pj_0, pb_s, if_neg (show ¬ i < n by omega), if_neg (show ¬ (-1 : Int32) = 32 by decide), if_neg (show ¬ (-1 : Int32) = 10 by decide)]
    exact ⟨d, rfl, h, rfl, fun _ _ _ => rfl⟩
  | m + 1, i, fu + 1, d, hm, hi, hf, ht, h => by
    have hn := ht.1
    have hin : i < n := by omega
    have hb := (ht.2.2 i hin).1
    rw [f_X12_advance_L0, h, pr_see ht hi, pb_s, pj_0, pb_s, if_pos hin, pb_pI, pb_s, nI_1, pr_run]
    have q32 : nI (b i) = 32 ↔ b i = 32 := nI_eq (b := 32) (by omega) (by omega)
    have q10 : nI (b i) = 10 ↔ b i = 10 := nI_eq (b := 10) (by omega) (by omega)
    obtain ⟨d', A1, A2, A3, A4⟩ := pr_r0 m (i + 1) fu (ya_sI d 83 8 (nI (i + 1))) (by omega) (by omega) (by omega) (pr_tr_c ht (pn_o (by omega)) (fun j => pn_o (by omega))) (pn_e ⟨rfl, rfl⟩)
    have B : ∀ a z, (a ≠ 83 ∨ z ≠ 8) → d'.1 a z = d.1 a z := fun a z q => by rw [A4 a z q, pn_o (by omega)]
    by_cases c : b i = 32
    · rw [if_pos (q32.2 c), if_pos (show pr_bl b i = true from decide_eq_true (Or.inl c))]
      exact ⟨d', A1, A2, A3, B⟩
    · by_cases c2 : b i = 10
      · rw [if_neg (fun z => c (q32.1 z)), if_pos (q10.2 c2), if_pos (show pr_bl b i = true from decide_eq_true (Or.inr c2))]
        exact ⟨d', A1, A2, A3, B⟩
      · rw [if_neg (fun z => c (q32.1 z)), if_neg (fun z => c2 (q10.1 z)), if_neg (show ¬ pr_bl b i = true from fun z => (of_decide_eq_true z).elim c c2)]
        exact ⟨d, rfl, h, rfl, fun _ _ _ => rfl⟩
theorem pr_r83 : ∀ m i fu (d : ya_D), m = n - i → i ≤ n → m < fu → pr_tr d n b → d.1 83 8 = nI i → ∃ d', f_X12_advance_L83 E fu d = E d' ∧ d'.1 83 8 = nI (pr_run (pr_al b) m i) ∧ d'.2 = d.2 ∧ ∀ a z, (a ≠ 83 ∨ z ≠ 8) → d'.1 a z = d.1 a z
  | m, i, 0, d, _, _, hf, _, _ => absurd hf (Nat.not_lt_zero m)
  | 0, i, fu + 1, d, hm, hi, hf, ht, h => by
    rw [f_X12_advance_L83, h, pr_see ht hi, pb_s, if_neg (by omega), pr_r4, pb_s, if_pos rfl]
    exact ⟨d, rfl, h, rfl, fun _ _ _ => rfl⟩
  | m + 1, i, fu + 1, d, hm, hi, hf, ht, h => by
    have hn := ht.1
    have hin : i < n := by omega
    have hb := (ht.2.2 i hin).1
    rw [f_X12_advance_L83, h, pr_see ht hi, pb_s, if_pos hin, pr_r2 _ hb, pb_s, pr_ite (c := pr_al b i) rfl, pr_run]
    by_cases c : pr_al b i = true
    · rw [if_pos c, if_pos c, pb_pI, pb_s, nI_1]
      obtain ⟨d', A1, A2, A3, A4⟩ := pr_r83 m (i + 1) fu (ya_sI d 83 8 (nI (i + 1))) (by omega) (by omega) (by omega) (pr_tr_c ht (pn_o (by omega)) (fun j => pn_o (by omega))) (pn_e ⟨rfl, rfl⟩)
      exact ⟨d', A1, A2, A3, fun a z q => by rw [A4 a z q, pn_o (by omega)]⟩
    · rw [if_neg c, if_neg c]
      exact ⟨d, rfl, h, rfl, fun _ _ _ => rfl⟩
theorem pr_r144 {s : Nat} : ∀ m i fu (d : ya_D), m = n - i → i ≤ n → s ≤ i → m < fu → pr_tr d n b → d.1 83 8 = nI i → d.1 83 11 = nI (min 99999 (pr_v b s (i - s))) → ∃ d', f_X12_advance_L144 E fu d = E d' ∧ d'.1 83 8 = nI (pr_run (pr_di b) m i) ∧ d'.1 83 11 = nI (min 99999 (pr_v b s (pr_run (pr_di b) m i - s))) ∧ d'.2 = d.2 ∧ ∀ a z, (a ≠ 83 ∨ (z ≠ 8 ∧ z ≠ 11)) → d'.1 a z = d.1 a z
  | m, i, 0, d, _, _, _, hf, _, _, _ => absurd hf (Nat.not_lt_zero m)
  | 0, i, fu + 1, d, hm, hi, hs, hf, ht, h, h3 => by
    rw [f_X12_advance_L144, h, pr_see ht hi, pb_s, if_neg (by omega), pr_r5, pb_s, if_pos rfl]
    exact ⟨d, rfl, h, h3, rfl, fun _ _ _ => rfl⟩
  | m + 1, i, fu + 1, d, hm, hi, hs, hf, ht, h, h3 => by
    have hn := ht.1
    have hin : i < n := by omega
    have hb := (ht.2.2 i hin).1
    rw [f_X12_advance_L144, h, pr_see ht hi, pb_s, if_pos hin, pr_r3 _ hb, pb_s, pr_ite (c := pr_di b i) rfl, pr_run]
    by_cases c : pr_di b i = true
    · have c' := of_decide_eq_true c
      rw [if_pos c, if_pos c, pb_s, h3, show (99999 : Int32) = nI 99999 from rfl, pr_num (by omega) c'.1 c'.2, pb_pI, pb_s, pn_o (by omega), h, pb_pI, pb_s, nI_1]
      obtain ⟨d', A1, A2, A5, A3, A4⟩ := pr_r144 (s := s) m (i + 1) fu (ya_sI (ya_sI d 83 11 (nI (min 99999 (10 * pr_v b s (i - s) + (b i - 48))))) 83 8 (nI (i + 1))) (by omega) (by omega) (by omega) (by omega) (pr_tr_c ht (by rw [pn_o (by omega), pn_o (by omega)]) (fun j => by rw [pn_o (by omega), pn_o (by omega)])) (pn_e ⟨rfl, rfl⟩) (by
        rw [pn_o (by omega), pn_e ⟨rfl, rfl⟩, show i + 1 - s = i - s + 1 by omega, pr_v, show s + (i - s) = i by omega])
      exact ⟨d', A1, A2, A5, A3, fun a z q => by rw [A4 a z q, pn_o (by omega), pn_o (by omega)]⟩
    · rw [if_neg c, if_neg c]
      exact ⟨d, rfl, h, h3, rfl, fun _ _ _ => rfl⟩
def pr_rest : ya_D → Option ya_D := fun (d_39 : ya_D) =>
      (ya_pI d_39 83 9 (d_39.1 83 8)).bind fun d44 =>
      (f_X12_see (d44.1 83 8) d44).bind fun x52 =>
      if x52 = (-1) then
        (ya_pI d44 83 10 0).bind fun d63 =>
        some d63
      else
      (f_X12_in ((x52).toInt64) 97 122).bind fun x77 =>
      if x77 = 0 then
        (f_X12_in ((x52).toInt64) 48 57).bind fun x133 =>
        if x133 = 0 then
          ya_j1 (fun (t0_226 : Int32) =>
            (ya_pI d44 83 10 t0_226).bind fun d226 =>
            (ya_pI d226 83 8 ((d226.1 83 8) + 1)).bind fun d236 =>
            some d236) fun k226 =>
          if x52 = 59 then
            k226 3
          else
          k226 4
        else
        (ya_pI d44 83 11 0).bind fun d141 =>
        f_X12_advance_L144  (fun (d_206 : ya_D) =>
          (ya_pI d_206 83 10 2).bind fun d208 =>
          some d208) ya_F d141
      else
      f_X12_advance_L83  (fun (d_117 : ya_D) =>
        (ya_pI d_117 83 10 1).bind fun d119 =>
        some d119) ya_F d44
theorem pr_adv0 (d : ya_D) : f_X12_advance d = f_X12_advance_L0 pr_rest (ya_F + 1) d := by
  rw [f_X12_advance, f_X12_advance_L0]
  unfold pr_rest
  rfl
theorem pr_adv {d : ya_D} {i : Nat} (ht : pr_tr d n b) (hi : i ≤ n) (h : d.1 83 8 = nI i) : ∃ d', f_X12_advance d = some d' ∧ pr_rK n b d' i ∧ d'.2 = d.2 ∧ ∀ a z, (a ≠ 83 ∨ z < 8 ∨ 11 < z) → d'.1 a z = d.1 a z := by
  have hn := ht.1
  have hS := pr_S_b (b := b) hi
  obtain ⟨d1, A1, A2, A3, A4⟩ := pr_r0 (E := pr_rest) (n - i) i (ya_F + 1) d rfl hi (by rw [ya_F]; omega) ht h
  rw [pr_adv0, A1]
  obtain ⟨s, hs⟩ : ∃ s, s = pr_S n b i := ⟨_, rfl⟩
  have A2' : d1.1 83 8 = nI s := by rw [A2, hs]; rfl
  obtain ⟨g, hg⟩ : ∃ g, g = ya_sI d1 83 9 (nI s) := ⟨_, rfl⟩
  have g1 : g.1 83 9 = nI s := by rw [hg]; exact pn_e ⟨rfl, rfl⟩
  have g2 : g.1 83 8 = nI s := by rw [hg, pn_o (by omega), A2']
  have gF : ∀ a z, (a ≠ 83 ∨ z < 8 ∨ 11 < z) → g.1 a z = d.1 a z := fun a z q => by rw [hg, pn_o (by omega), A4 a z (by omega)]
  have g0 : g.2 = d.2 := by rw [hg, pn_sI2, A3]
  have gt : pr_tr g n b := pr_tr_c ht (gF _ _ (by omega)) (fun j => gF _ _ (by omega))
  unfold pr_rest
  rw [A2', pb_pI, pb_s, ← hg, g2, pr_see gt (by omega), pb_s]
  unfold pr_rK pr_V pr_kr
  have eE : pr_E n b i = pr_e n b s := by rw [hs]; rfl
  have ek : pr_k n b i = pr_k0 n b s := by rw [hs]; rfl
  rw [eE, ek, ← hs]
  unfold pr_e pr_k0
  by_cases c : n ≤ s
  · rw [if_pos c, if_pos c, if_neg (show ¬ s < n by omega), if_pos rfl, pb_pI, pb_s]
    exact ⟨_, rfl, ⟨by rw [pn_o (by omega), g2], by rw [pn_o (by omega), g1], pn_e ⟨rfl, rfl⟩, fun q => absurd q (by decide)⟩, g0, fun a z q => by rw [pn_o (by omega), gF a z q]⟩
  · have hsn : s < n := by omega
    have hb := (gt.2.2 s hsn).1
    rw [if_neg c, if_neg c, if_pos hsn, if_neg (pn_m1 (by omega)), pr_r2 _ hb, pb_s, pr_ite (c := pr_al b s) rfl]
    by_cases c1 : pr_al b s = true
    · rw [if_pos c1, if_pos c1, if_pos c1]
      obtain ⟨d', B1, B2, B3, B4⟩ := pr_r83 (E := fun (d_117 : ya_D) =>
        (ya_pI d_117 83 10 1).bind fun d119 =>
        some d119) (n - s) s ya_F g rfl (by omega) (by rw [ya_F]; omega) gt g2
      refine ⟨ya_sI d' 83 10 1, ?_, ⟨by rw [pn_o (by omega), B2], by rw [pn_o (by omega), B4 _ _ (by omega), g1], pn_e ⟨rfl, rfl⟩, fun q => absurd q (by decide)⟩, by rw [pn_sI2, B3, g0], fun a z q => by rw [pn_o (by omega), B4 a z (by omega), gF a z q]⟩
      rw [B1, pb_pI, pb_s]
    · rw [if_neg c1, if_neg c1, if_neg c1, pr_r3 _ hb, pb_s, pr_ite (c := pr_di b s) rfl]
      by_cases c2 : pr_di b s = true
      · rw [if_pos c2, if_pos c2, if_pos c2, pb_pI, pb_s]
        obtain ⟨d', B1, B2, B5, B3, B4⟩ := pr_r144 (s := s) (E := fun (d_206 : ya_D) =>
          (ya_pI d_206 83 10 2).bind fun d208 =>
          some d208) (n - s) s ya_F (ya_sI g 83 11 0) rfl (by omega) (Nat.le_refl _) (by rw [ya_F]; omega) (pr_tr_c gt (pn_o (by omega)) (fun j => pn_o (by omega))) (by rw [pn_o (by omega), g2]) (by rw [pn_e ⟨rfl, rfl⟩, Nat.sub_self]; rfl)
        refine ⟨ya_sI d' 83 10 2, ?_, ⟨by rw [pn_o (by omega), B2], by rw [pn_o (by omega), B4 _ _ (by omega), pn_o (by omega), g1], pn_e ⟨rfl, rfl⟩, fun _ => by rw [pn_o (by omega)]; exact B5⟩, by rw [pn_sI2, B3, pn_sI2, g0], fun a z q => by rw [pn_o (by omega), B4 a z (by omega), pn_o (by omega), gF a z q]⟩
        rw [B1, pb_pI, pb_s]
      · have q59 : nI (b s) = 59 ↔ b s = 59 := nI_eq (b := 59) (by omega) (by omega)
        rw [if_neg c2, if_neg c2, if_neg c2, pj_1, if_pos (show (3 : Nat) = 3 from rfl)]
        have key : ∀ t : Int32, ∃ d', ((ya_pI g 83 10 t).bind fun d226 => (ya_pI d226 83 8 ((d226.1 83 8) + 1)).bind fun d236 => some d236) = some d' ∧ d'.1 83 8 = nI (s + 1) ∧ d'.1 83 9 = nI s ∧ d'.1 83 10 = t ∧ d'.2 = d.2 ∧ ∀ a z, (a ≠ 83 ∨ z < 8 ∨ 11 < z) → d'.1 a z = d.1 a z := fun t => by
          refine ⟨ya_sI (ya_sI g 83 10 t) 83 8 (nI (s + 1)), ?_, pn_e ⟨rfl, rfl⟩, by rw [pn_o (by omega), pn_o (by omega), g1], by rw [pn_o (by omega)]; exact pn_e ⟨rfl, rfl⟩, g0, fun a z q => by rw [pn_o (by omega), pn_o (by omega), gF a z q]⟩
          rw [pb_pI, pb_s, pn_o (by omega), g2, pb_pI, pb_s, nI_1]
        by_cases c3 : b s = 59
        · obtain ⟨d', K1, K2, K3, K4, K5, K6⟩ := key 3
          rw [if_pos (q59.2 c3), if_pos c3]
          exact ⟨d', K1, ⟨K2, K3, K4, fun q => absurd q (by decide)⟩, K5, K6⟩
        · obtain ⟨d', K1, K2, K3, K4, K5, K6⟩ := key 4
          rw [if_neg (fun z => c3 (q59.1 z)), if_neg c3]
          exact ⟨d', K1, ⟨K2, K3, K4, fun q => absurd q (by decide)⟩, K5, K6⟩
end
