/-! Market: a line's parts, class and reference -/
/-- a fault and its place, or the place behind the last token taken -/
abbrev pr_X : Type := (Nat × Nat) ⊕ Nat
def pr_tw (n : Nat) (b : Nat → Nat) (w : List Nat) : pr_X → pr_X
  | .inl f => .inl f
  | .inr i => if pr_is b (pr_S n b i) (pr_E n b i) w then .inr (pr_E n b i) else .inl (1, pr_S n b i)
def pr_tn (n : Nat) (b : Nat → Nat) (lo hi : Nat) : pr_X → Nat × pr_X
  | .inl f => (0, .inl f)
  | .inr i => if pr_k n b i = 2 then (if lo ≤ pr_V n b i ∧ pr_V n b i < hi then (pr_V n b i, .inr (pr_E n b i)) else (0, .inl (2, pr_S n b i))) else (0, .inl (1, pr_S n b i))
def pr_fr (e0 e : ya_D) : Prop := e.2 = e0.2 ∧ (∀ a z, a ≠ 83 → a ≠ 89 → e.1 a z = e0.1 a z) ∧ ∀ z, (z < 8 ∨ 13 < z) → e.1 83 z = e0.1 83 z
/-- the reference's state -/
def pr_rS (n : Nat) (b : Nat → Nat) (e0 e : ya_D) : pr_X → Prop
  | .inl f => pr_fr e0 e ∧ e.1 83 12 = nI f.1 ∧ e.1 83 13 = nI f.2 ∧ f.1 ≠ 0 ∧ f.1 < 4
  | .inr i => pr_fr e0 e ∧ e.1 83 12 = 0 ∧ e.1 83 13 = -1 ∧ i ≤ n ∧ pr_rK n b e i
def pr_cfr (d0 d : ya_D) : Prop := d.2 = d0.2 ∧ ∀ a z, a ≠ 22 → a ≠ 23 → (a ≠ 3 ∨ z < 3 ∨ 5 < z) → d.1 a z = d0.1 a z
def pr_cN (d0 d : ya_D) (l : List Nat) : Prop := pr_cfr d0 d ∧ d.1 3 4 = 0 ∧ d.1 3 5 = -1 ∧ d.1 3 3 = nI l.length ∧ ∀ j, j < l.length → d.1 23 j = nI (l.getD j 0)
/-- the class's state -/
def pr_cS (n : Nat) (d0 d : ya_D) (l : List Nat) : pr_X → Prop
  | .inl f => pr_cfr d0 d ∧ d.1 3 4 = nI f.1 ∧ d.1 3 5 = nI f.2 ∧ f.1 ≠ 0 ∧ f.1 < 4
  | .inr i => pr_cN d0 d l ∧ i ≤ n ∧ d.1 22 2 = nI i
theorem nI_ge2 {a b : Nat} (h : b ≤ a) (ha : a < 2 ^ 31) (hb : b < 2 ^ 31) : ¬ nI a < nI b := by rw [pn_lt ha hb]; omega
theorem pr_nz {f : Nat} (h0 : f ≠ 0) (h4 : f < 4) : ¬ nI f = 0 := by
  rw [show (0 : Int32) = nI 0 from rfl, pn_eq (by omega) (by omega)]; exact h0
theorem pr_hiI {v hi : Nat} {H : Int32} (hH : H.toInt = (hi : Int) - 1) (hv : v < 2 ^ 31) : (nI v ≤ H) = (v < hi) := by
  apply propext
  rw [Int32.le_iff_toInt_le, nI_toInt hv, hH]; omega
theorem pr_in {v lo hi : Nat} {H : Int32} (hv : v < 2 ^ 31) (hl : lo < 2 ^ 31) (hH : H.toInt = (hi : Int) - 1) : f_X12_in (nI v).toInt64 (nI lo).toInt64 H.toInt64 = some (if lo ≤ v ∧ v < hi then 1 else 0) := by
  have e0 : ((nI v).toInt64 < (nI lo).toInt64) = (v < lo) := propext (Int64.lt_iff_toInt_lt.trans (by rw [pn_i64, pn_i64, nI_toInt hv, nI_toInt hl]; omega))
  have e1 : (H.toInt64 < (nI v).toInt64) = (hi ≤ v) := propext (Int64.lt_iff_toInt_lt.trans (by rw [pn_i64, pn_i64, nI_toInt hv, hH]; omega))
  rw [f_X12_in, pj_0]
  simp only [e0, e1]
  by_cases h0 : v < lo
  · rw [if_pos h0, if_neg (by omega)]
  · rw [if_neg h0]
    by_cases h1 : hi ≤ v
    · rw [if_pos h1, if_neg (by omega)]
    · rw [if_neg h1, if_pos (by omega)]
theorem pr_ga1 {l : List Nat} {v j : Nat} (h : j < l.length) : (l ++ [v]).getD j 0 = l.getD j 0 := by
  rw [List.getD_eq_getElem?_getD, List.getD_eq_getElem?_getD, List.getElem?_append_left h]
theorem pr_ga2 {l : List Nat} {v : Nat} : (l ++ [v]).getD l.length 0 = v := by
  rw [List.getD_eq_getElem?_getD, List.getElem?_append_right (Nat.le_refl _), Nat.sub_self]; rfl
section
variable {n : Nat} {b : Nat → Nat} {d0 d e0 e : ya_D} {X : pr_X} {l : List Nat}
theorem pr_rS_f (h : pr_rS n b e0 e X) : pr_fr e0 e := by
  cases X with
  | inl f => exact h.1
  | inr i => exact h.1
theorem pr_rS_t (ht : pr_tr e0 n b) (h : pr_fr e0 e) : pr_tr e n b := pr_tr_c ht (h.2.2 7 (by omega)) (fun j => h.2.1 87 j (by omega) (by omega))
theorem pr_rS_w (h : pr_rS n b e0 e X) (k : Nat) (v : Int32) : pr_rS n b e0 (ya_sI e 89 k v) X := by
  have hf : ∀ {e}, pr_fr e0 e → pr_fr e0 (ya_sI e 89 k v) := fun h => ⟨h.1, fun a z h1 h2 => by rw [pn_o (Or.inl h2)]; exact h.2.1 a z h1 h2, fun z hz => by rw [pn_o (by omega)]; exact h.2.2 z hz⟩
  cases X with
  | inl f => exact ⟨hf h.1, by rw [pn_o (by omega)]; exact h.2.1, by rw [pn_o (by omega)]; exact h.2.2.1, h.2.2.2⟩
  | inr i =>
    obtain ⟨h1, h2, h3, h4, k1, k2, k3, k4⟩ := h
    exact ⟨hf h1, by rw [pn_o (by omega)]; exact h2, by rw [pn_o (by omega)]; exact h3, h4, by rw [pn_o (by omega)]; exact k1, by rw [pn_o (by omega)]; exact k2, by rw [pn_o (by omega)]; exact k3, fun q => by rw [pn_o (by omega)]; exact k4 q⟩
theorem pr_bad {f : Nat × Nat} (h : pr_rS n b e0 e (.inl f)) : ¬ e.1 83 12 = 0 := by
  rw [h.2.1]; exact pr_nz h.2.2.2.1 h.2.2.2.2
theorem pr_errs0 {f : Nat × Nat} (h : pr_rS n b e0 e (.inl f)) (v : Int32) : f_X12_errs v e = some e := by
  rw [f_X12_errs, pr_good, if_neg (pr_bad h), pb_s, if_pos rfl]
theorem pr_errs1 {i f : Nat} (h : pr_rS n b e0 e (.inr i)) (hf : f ≠ 0) (hf4 : f < 4) : ∃ e', f_X12_errs (nI f) e = some e' ∧ pr_rS n b e0 e' (.inl (f, pr_S n b i)) ∧ e'.1 89 = e.1 89 := by
  obtain ⟨⟨f1, f2, f3⟩, h2, h3, h4, k1, k2, k3, k4⟩ := h
  refine ⟨ya_sI (ya_sI e 83 12 (nI f)) 83 13 (nI (pr_S n b i)), ?_, ⟨⟨f1, fun a z a1 a2 => by rw [pn_o (Or.inl a1), pn_o (Or.inl a1)]; exact f2 a z a1 a2, fun z hz => by rw [pn_o (by omega), pn_o (by omega)]; exact f3 z hz⟩, by rw [pn_o (by omega)]; exact pn_e ⟨rfl, rfl⟩, pn_e ⟨rfl, rfl⟩, hf, hf4⟩, funext fun z => by rw [pn_o (by omega), pn_o (by omega)]⟩
  rw [f_X12_errs, pr_good, if_pos h2, pb_s, if_neg pn_10, pb_pI, pb_s, pn_o (by omega), k2, pb_pI, pb_s]
theorem pr_adv1 (ht : pr_tr e0 n b) {i : Nat} (h : pr_rS n b e0 e (.inr i)) : ∃ e', f_X12_advance e = some e' ∧ pr_rS n b e0 e' (.inr (pr_E n b i)) ∧ e'.1 89 = e.1 89 := by
  obtain ⟨⟨f1, f2, f3⟩, h2, h3, h4, k1, k2, k3, k4⟩ := h
  obtain ⟨e', A1, A2, A3, A4⟩ := pr_adv (pr_rS_t ht ⟨f1, f2, f3⟩) (pr_E_b (b := b) h4).2.2.2.1 k1
  exact ⟨e', A1, ⟨⟨A3.trans f1, fun a z a1 a2 => by rw [A4 a z (Or.inl a1)]; exact f2 a z a1 a2, fun z hz => by rw [A4 83 z (by omega)]; exact f3 z hz⟩, by rw [A4 _ _ (by omega)]; exact h2, by rw [A4 _ _ (by omega)]; exact h3, (pr_E_b (b := b) h4).2.2.2.1, A2⟩, funext fun z => A4 _ _ (by omega)⟩
theorem pr_is1 (ht : pr_tr e0 n b) {i q : Nat} {w : List Nat} (h : pr_rS n b e0 e (.inr i)) (hw : pr_lw q w) : f_X12_is q e = some (if pr_is b (pr_S n b i) (pr_E n b i) w then 1 else 0) := pr_rIs (pr_rS_t ht h.1) hw h.2.2.2.1 h.2.1 h.2.2.2.2
theorem pr_take0 {q : Nat} (h : f_X12_is q e = some 0) : f_X12_takes q e = some (0, e) := by
  rw [f_X12_takes, h, pb_s, if_pos rfl]; rfl
theorem pr_take1 (ht : pr_tr e0 n b) {i q : Nat} (h : pr_rS n b e0 e (.inr i)) (hq : f_X12_is q e = some 1) : ∃ e', f_X12_takes q e = some (1, e') ∧ pr_rS n b e0 e' (.inr (pr_E n b i)) ∧ e'.1 89 = e.1 89 := by
  obtain ⟨e', A1, A2, A3⟩ := pr_adv1 ht h
  exact ⟨e', by rw [f_X12_takes, hq, pb_s, if_neg pn_10, A1, pb_s]; rfl, A2, A3⟩
theorem pr_needs (ht : pr_tr e0 n b) {q : Nat} {w : List Nat} (h : pr_rS n b e0 e X) (hw : pr_lw q w) : ∃ e', f_X12_needs q e = some e' ∧ pr_rS n b e0 e' (pr_tw n b w X) ∧ e'.1 89 = e.1 89 := by
  cases X with
  | inl f =>
    refine ⟨e, ?_, h, rfl⟩
    rw [f_X12_needs, pr_take0 (pr_rIs0 hw.1.1 (pr_bad h)), ya_b2s, if_pos rfl, pr_errs0 h, pb_s]
  | inr i =>
    have hi := pr_is1 ht h hw
    by_cases c : pr_is b (pr_S n b i) (pr_E n b i) w
    · rw [if_pos c] at hi
      obtain ⟨e', A1, A2, A3⟩ := pr_take1 ht h hi
      refine ⟨e', by rw [f_X12_needs, A1, ya_b2s, if_neg pn_10], ?_, A3⟩
      rw [pr_tw, if_pos c]; exact A2
    · rw [if_neg c] at hi
      obtain ⟨e', A1, A2, A3⟩ := pr_errs1 h (f := 1) (by omega) (by omega)
      refine ⟨e', by rw [f_X12_needs, pr_take0 hi, ya_b2s, if_pos rfl, show f_X12_errs 1 e = some e' from A1, pb_s], ?_, A3⟩
      rw [pr_tw, if_neg c]; exact A2
theorem pr_number (ht : pr_tr e0 n b) (h : pr_rS n b e0 e X) {lo hi : Nat} {L H : Int32} (hL : L = nI lo) (hlo : lo ≤ 100) (hhi : hi ≤ 100) (hH : H.toInt = (hi : Int) - 1) : ∃ e', f_X12_number L H e = some (nI (pr_tn n b lo hi X).1, e') ∧ pr_rS n b e0 e' (pr_tn n b lo hi X).2 ∧ e'.1 89 = e.1 89 := by
  subst hL
  cases X with
  | inl f =>
    refine ⟨e, ?_, h, rfl⟩
    have hb := pr_bad h
    rw [f_X12_number, pr_good, if_neg hb, pb_s, pj_1, if_pos rfl]
    dsimp only
    rw [pr_good, if_neg hb, pb_s, pj_1, if_pos rfl]
    dsimp only
    rw [pr_good, if_neg hb, pb_s, if_pos rfl]
    rfl
  | inr i =>
    have hg : e.1 83 12 = 0 := h.2.1
    have k3 := h.2.2.2.2.2.2.1
    have k4 := h.2.2.2.2.2.2.2
    have hkr : pr_kr n b i < 5 := by
      unfold pr_kr pr_k pr_k0
      repeat' split
      all_goals omega
    have hkk : (pr_kr n b i = 2) ↔ pr_k n b i = 2 := by
      unfold pr_kr
      by_cases z : pr_k n b i = 3
      · rw [if_pos z]
        split
        · omega
        · omega
      · rw [if_neg z]
    rw [f_X12_number, pr_good, if_pos hg, pb_s, pj_1, if_neg pn_10, k3]
    by_cases c : pr_k n b i = 2
    · have k5 := k4 c
      rw [if_pos (by rw [hkk.2 c]; rfl)]
      dsimp only
      rw [pr_good, if_pos hg, pb_s, pj_1, if_neg pn_10, k5, pr_in (by omega) (by omega) hH, pb_s, pr_tn, if_pos c]
      by_cases c2 : lo ≤ pr_V n b i ∧ pr_V n b i < hi
      · obtain ⟨e', A1, A2, A3⟩ := pr_adv1 ht h
        refine ⟨e', ?_, by rw [if_pos c2]; exact A2, A3⟩
        rw [if_pos (show lo ≤ min 99999 (pr_V n b i) ∧ min 99999 (pr_V n b i) < hi by omega), if_neg pn_10, if_pos c2]
        dsimp only
        rw [pr_good, if_pos hg, pb_s, if_neg pn_10, A1, pb_s, k5, show min 99999 (pr_V n b i) = pr_V n b i by omega]
      · obtain ⟨e', A1, A2, A3⟩ := pr_errs1 h (f := 2) (by omega) (by omega)
        refine ⟨e', ?_, by rw [if_neg c2]; exact A2, A3⟩
        rw [if_neg (show ¬ (lo ≤ min 99999 (pr_V n b i) ∧ min 99999 (pr_V n b i) < hi) by omega), if_pos rfl, if_neg c2, show (2 : Int32) = nI 2 from rfl, A1, pb_s]
        dsimp only
        rw [pr_good, if_neg (pr_bad A2), pb_s, if_pos rfl]
        rfl
    · obtain ⟨e', A1, A2, A3⟩ := pr_errs1 h (f := 1) (by omega) (by omega)
      refine ⟨e', ?_, by rw [pr_tn, if_neg c]; exact A2, A3⟩
      rw [if_neg (by rw [show (2 : Int32) = nI 2 from rfl, pn_eq (by omega) (by omega)]; exact fun z => c (hkk.1 z)), show f_X12_errs 1 e = some e' from A1, pb_s, pr_tn, if_neg c]
      dsimp only
      rw [pr_good, if_neg (pr_bad A2), pb_s, pj_1, if_pos rfl]
      dsimp only
      rw [pr_good, if_neg (pr_bad A2), pb_s, if_pos rfl]
      rfl
theorem pr_told (ht : pr_tr e0 n b) (h : pr_rS n b e0 e X) {q lo hi : Nat} {w : List Nat} {L H : Int32} (hw : pr_lw q w) (hL : L = nI lo) (hlo : lo ≤ 100) (hhi : hi ≤ 100) (hH : H.toInt = (hi : Int) - 1) : ∃ e', f_X12_told q L H e = some (nI (pr_tn n b lo hi (pr_tw n b w X)).1, e') ∧ pr_rS n b e0 e' (pr_tn n b lo hi (pr_tw n b w X)).2 ∧ e'.1 89 = e.1 89 := by
  obtain ⟨e1, A1, A2, A3⟩ := pr_needs ht h hw
  obtain ⟨e2, B1, B2, B3⟩ := pr_number ht A2 hL hlo hhi hH
  exact ⟨e2, by rw [f_X12_told, A1, pb_s, B1, ya_b2s], B2, B3.trans A3⟩
/-! the class -/
theorem pr_cS_f (h : pr_cS n d0 d l X) : pr_cfr d0 d := by
  cases X with
  | inl f => exact h.1
  | inr i => exact h.1.1
theorem pr_cS_t (ht : pr_tp d0 n b) (h : pr_cfr d0 d) : pr_tp d n b := pr_tp_c ht (h.2 1 1 (by omega) (by omega) (by omega)) (fun j => h.2 2 j (by omega) (by omega) (by omega))
theorem pr_refuse {f p : Nat} (h : pr_cfr d0 d) (h1 : d.1 22 1 = nI p) (hf : f ≠ 0) (hf4 : f < 4) : ∃ d', f_X3_refuse (nI f) d = some d' ∧ pr_cS n d0 d' l (.inl (f, p)) := by
  refine ⟨ya_sI (ya_sI d 3 4 (nI f)) 3 5 (nI p), ?_, ⟨h.1, fun a z a1 a2 a3 => by rw [pn_o (by omega), pn_o (by omega)]; exact h.2 a z a1 a2 a3⟩, by rw [pn_o (by omega)]; exact pn_e ⟨rfl, rfl⟩, pn_e ⟨rfl, rfl⟩, hf, hf4⟩
  rw [f_X3_refuse, pb_pI, pb_s, pn_o (by omega), h1, pb_pI, pb_s]
/-- the class's next token -/
theorem pr_nx (ht : pr_tp d0 n b) {i : Nat} (h : pr_cS n d0 d l (.inr i)) : ∃ d', f_X9_next d = some d' ∧ pr_cN d0 d' l ∧ pr_cK n b d' i := by
  obtain ⟨⟨⟨h1, h2⟩, h3, h4, h5, h6⟩, h7, h8⟩ := h
  obtain ⟨d', A1, A2, A3, A4⟩ := pr_next (pr_cS_t ht ⟨h1, h2⟩) h7 h8
  exact ⟨d', A1, ⟨⟨A3.trans h1, fun a z a1 a2 a3 => by rw [A4 a z a1]; exact h2 a z a1 a2 a3⟩, by rw [A4 _ _ (by omega)]; exact h3, by rw [A4 _ _ (by omega)]; exact h4, by rw [A4 _ _ (by omega)]; exact h5, fun j hj => by rw [A4 _ _ (by omega)]; exact h6 j hj⟩, A2⟩
/-- a part of a form: no blank in it, one behind it or the end -/
abbrev pr_pc (q x m : Nat) : Prop := q < ya_kN ∧ x + m ≤ ya_klen.getD q 0 ∧ (∀ j, j < m → ¬ (ya_kbyt.getD q []).getD (x + j) 0 = 32) ∧ (x + m = ya_klen.getD q 0 ∨ (ya_kbyt.getD q []).getD (x + m) 0 = 32) ∧ 0 < m
abbrev pr_wc (q x : Nat) (w : List Nat) : Prop := pr_sl q x w ∧ pr_pc q x w.length ∧ ¬ (65 ≤ w.getD 0 0 ∧ w.getD 0 0 ≤ 90)
abbrev pr_nc (q x c : Nat) : Prop := pr_pc q x 1 ∧ (ya_kbyt.getD q []).getD x 0 = nI c ∧ 65 ≤ c ∧ c ≤ 90
theorem pr_pw (ht : pr_tp d0 n b) {i q x : Nat} {w : List Nat} (h : pr_cS n d0 d l (.inr i)) (hw : pr_wc q x w) : ∃ d', f_X3_readPart q (nI x) (nI (x + w.length)) d = some d' ∧ pr_cS n d0 d' l (pr_tw n b w (.inr i)) := by
  obtain ⟨hw1, hw2, hw3⟩ := hw
  have hl := pr_kl q hw1.1
  have hlen := hw2.2.2.2.2
  have hm := hw2.2.1
  obtain ⟨w1, w2⟩ := hw1.2.2 0 hlen
  rw [Nat.add_zero] at w2
  have hi := h.2.1
  obtain ⟨d5, A1, A2, A3⟩ := pr_nx ht h
  have hE := pr_E_b (b := b) hi
  have his := pr_isAs (pr_cS_t ht A2.1) hw1 A3.2.1 A3.2.2.1 hE.2.2.1 hE.2.2.2.1 rfl
  have key : ∃ d', ((f_X9_isAs q (nI x) (nI (x + w.length)) d5).bind fun x60 =>
      if x60 = 0 then
        (f_X3_refuse 1 d5).bind fun d68 =>
        some d68
      else
      some d5) = some d' ∧ pr_cS n d0 d' l (pr_tw n b w (.inr i)) := by
    rw [his, pb_s, pr_tw]
    by_cases c : pr_is b (pr_S n b i) (pr_E n b i) w
    · rw [if_pos c, if_neg pn_10, if_pos c]
      exact ⟨d5, rfl, A2, hE.2.2.2.1, A3.2.2.1⟩
    · rw [if_neg c, if_pos rfl, if_neg c]
      obtain ⟨d', B1, B2⟩ := pr_refuse (n := n) (l := l) (f := 1) A2.1 A3.2.1 (by omega) (by omega)
      exact ⟨d', by rw [show f_X3_refuse 1 d5 = some d' from B1, pb_s], B2⟩
  obtain ⟨d', K1, K2⟩ := key
  refine ⟨d', ?_, K2⟩
  rw [f_X3_readPart, A1, pb_s, pr_sle hw1.1, pb_s, pj_1, if_neg (by rw [pn_le (by omega) (by omega)]; omega), pr_sce hw1.1 (by omega), pb_s, w2]
  dsimp only
  rw [pj_0, K1]
  have q65 : nI (w.getD 0 0) < 65 ↔ w.getD 0 0 < 65 := nI_ltI (b := 65) (by omega) (by omega)
  have q90 : 90 < nI (w.getD 0 0) ↔ 90 < w.getD 0 0 := nI_ltI (a := 90) (by omega) (by omega)
  by_cases c : w.getD 0 0 < 65
  · rw [if_pos (q65.2 c)]
  · rw [if_neg (fun z => c (q65.1 z)), if_pos (q90.2 (by omega))]
theorem pr_pn (ht : pr_tp d0 n b) {i q x c lo hi : Nat} {H : Int32} (h : pr_cS n d0 d l (.inr i)) (hw : pr_nc q x c) (hl6 : l.length < 6) (hlo : lo ≤ 100) (hhi : hi ≤ 100) (h1 : ∀ d', pr_cN d0 d' l → f_X3_lowestOf (nI c) d' = some (nI lo)) (h2 : ∀ d', pr_cN d0 d' l → f_X3_highestOf (nI c) d' = some H) (hH : H.toInt = (hi : Int) - 1) : ∃ d', f_X3_readPart q (nI x) (nI (x + 1)) d = some d' ∧ pr_cS n d0 d' (l ++ [(pr_tn n b lo hi (.inr i)).1]) (pr_tn n b lo hi (.inr i)).2 := by
  obtain ⟨hw2, hc, hc1, hc2⟩ := hw
  have hl := pr_kl q hw2.1
  have hm := hw2.2.1
  have hi' := h.2.1
  obtain ⟨d5, A1, A2, A3⟩ := pr_nx ht h
  have hE := pr_E_b (b := b) hi'
  have hk4 : pr_k n b i < 4 := by
    unfold pr_k pr_k0
    repeat' split
    all_goals omega
  have rf : ∀ f, f ≠ 0 → f < 4 → ∃ d', f_X3_refuse (nI f) d5 = some d' ∧ pr_cS n d0 d' (l ++ [0]) (.inl (f, pr_S n b i)) := fun f f1 f2 => pr_refuse A2.1 A3.2.1 f1 f2
  have key : ∃ d', f_X3_readNumber (nI c) d5 = some d' ∧ pr_cS n d0 d' (l ++ [(pr_tn n b lo hi (.inr i)).1]) (pr_tn n b lo hi (.inr i)).2 := by
    rw [f_X3_readNumber, A3.1, pr_tn]
    by_cases c0 : pr_k n b i = 2
    · have k5 := A3.2.2.2 c0
      rw [if_pos (by rw [c0]; rfl), if_pos c0, h1 d5 A2, pb_s, pj_0, k5]
      have q1 : nI (min 1000000 (pr_V n b i)) < nI lo ↔ min 1000000 (pr_V n b i) < lo := nI_ltI (by omega) (by omega)
      have q2 : nI (min 1000000 (pr_V n b i)) ≤ H ↔ min 1000000 (pr_V n b i) < hi := by rw [pr_hiI hH (by omega)]
      by_cases c2 : lo ≤ pr_V n b i ∧ pr_V n b i < hi
      · rw [if_neg (fun z => by have := q1.1 z; omega), h2 d5 A2, pb_s, if_pos (q2.2 (by omega)), if_pos c2]
        obtain ⟨a1, a2, a3, a4, a5⟩ := A2
        refine ⟨ya_sI (ya_sI d5 23 l.length (nI (pr_V n b i))) 3 3 (nI (l.length + 1)), ?_, ⟨⟨a1.1, fun a z z1 z2 z3 => by rw [pn_o (by omega), pn_o (by omega)]; exact a1.2 a z z1 z2 z3⟩, by rw [pn_o (by omega), pn_o (by omega)]; exact a2, by rw [pn_o (by omega), pn_o (by omega)]; exact a3, by rw [pn_e ⟨rfl, rfl⟩, List.length_append]; rfl, fun j hj => ?_⟩, hE.2.2.2.1, by rw [pn_o (by omega), pn_o (by omega)]; exact A3.2.2.1⟩
        · rw [a4, if_neg (by rw [show (6 : Int32) = nI 6 from rfl, pn_le (by omega) (by omega)]; omega), pn_wI (by omega) (by omega), pb_s, pn_o (by omega), a4, nI_1, pb_pI, pb_s, show min 1000000 (pr_V n b i) = pr_V n b i by omega]
        · rw [List.length_append, List.length_singleton] at hj
          rw [pn_o (by omega)]
          by_cases z : j = l.length
          · subst z
            rw [pn_e ⟨rfl, rfl⟩]
            exact congrArg nI pr_ga2.symm
          · rw [pn_o (by omega), a5 j (by omega)]
            exact congrArg nI (pr_ga1 (by omega)).symm
      · obtain ⟨d', B1, B2⟩ := rf 2 (by omega) (by omega)
        rw [if_neg c2]
        refine ⟨d', ?_, B2⟩
        rw [show (2 : Int32) = nI 2 from rfl, B1, pb_s]
        by_cases c3 : min 1000000 (pr_V n b i) < lo
        · rw [if_pos (q1.2 c3)]
        · rw [if_neg (fun z => c3 (q1.1 z)), h2 d5 A2, pb_s, if_neg (fun z => by have := q2.1 z; omega)]
    · obtain ⟨d', B1, B2⟩ := rf 1 (by omega) (by omega)
      rw [if_neg c0, if_neg (by rw [show (2 : Int32) = nI 2 from rfl, pn_eq (by omega) (by omega)]; exact c0), show f_X3_refuse 1 d5 = some d' from B1, pb_s]
      exact ⟨d', rfl, B2⟩
  obtain ⟨d', K1, K2⟩ := key
  refine ⟨d', ?_, K2⟩
  rw [f_X3_readPart, A1, pb_s, pr_sle hw2.1, pb_s, pj_1, if_neg (by rw [pn_le (by omega) (by omega)]; omega), pr_sce hw2.1 (by omega), pb_s, hc]
  dsimp only
  rw [pj_0, if_neg (show ¬ nI c < 65 from nI_ge2 (b := 65) (by omega) (by omega) (by omega)), if_neg (show ¬ 90 < nI c from nI_ge2 (a := 90) (by omega) (by omega) (by omega)), K1, pb_s]
/-! the form's loop -/
theorem pr_scan {q : Nat} {v3 : Int32} (hq : q < ya_kN) (h4 : d.1 3 4 = 0) : ∀ m x fu, (∀ j, j < m → x + j < ya_klen.getD q 0 ∧ ¬ (ya_kbyt.getD q []).getD (x + j) 0 = 32) → f_X3_readForm_L17 q (fu + m) v3 (nI x) d = f_X3_readForm_L17 q fu v3 (nI (x + m)) d
  | 0, x, fu, _ => rfl
  | m + 1, x, fu, h => by
    have hl := pr_kl q hq
    obtain ⟨h0, h1⟩ := h 0 (by omega)
    rw [Nat.add_zero] at h0 h1
    have ih := pr_scan (v3 := v3) hq h4 m (x + 1) fu (fun j hj => by
      have := h (j + 1) (by omega)
      rw [show x + 1 + j = x + (j + 1) by omega]; exact this)
    rw [← Nat.add_assoc, f_X3_readForm_L17, pr_sle hq, pb_s, if_neg (by rw [pn_lt (by omega) (by omega)]; omega), if_pos h4, pb_s, pj_2, pj_0, if_neg (by rw [pn_eq (by omega) (by omega)]; omega), pr_sce hq h0, pb_s, if_neg h1]
    rw [nI_1]
    dsimp only
    rw [ih, show x + 1 + m = x + (m + 1) by omega]
theorem pr_L17 {q x m fu : Nat} (hp : pr_pc q x m) (h4 : d.1 3 4 = 0) (hf : m < fu) : f_X3_readForm_L17 q fu (nI x) (nI x) d = (f_X3_readPart q (nI x) (nI (x + m)) d).bind fun d' => f_X3_readForm_L17 q (fu - (m + 1)) (nI (x + m + 1)) (nI (x + m + 1)) d' := by
  obtain ⟨hq, p1, p2, p3, p4⟩ := hp
  have hl := pr_kl q hq
  have e1 := pr_scan (v3 := nI x) hq h4 m x (fu - m) (fun j hj => ⟨by omega, p2 j hj⟩)
  rw [show fu - m + m = fu by omega] at e1
  rw [e1]
  obtain ⟨g, hg⟩ : ∃ g, fu - m = g + 1 := ⟨fu - m - 1, by omega⟩
  rw [hg, show fu - (m + 1) = g by omega, f_X3_readForm_L17, pr_sle hq, pb_s, if_neg (by rw [pn_lt (by omega) (by omega)]; omega), if_pos h4, pb_s, pj_2, pj_0]
  by_cases c : x + m = ya_klen.getD q 0
  · rw [if_pos (by rw [c]), nI_1]
  · rw [if_neg (by rw [pn_eq (by omega) (by omega)]; exact c), pr_sce hq (by omega), pb_s, if_pos (p3.resolve_left c), nI_1]
theorem pr_L17b {q fu : Nat} {v3 v4 : Int32} (hq : q < ya_kN) (h4 : ¬ d.1 3 4 = 0) (hf : 0 < fu) : f_X3_readForm_L17 q fu v3 v4 d = some d := by
  obtain ⟨g, rfl⟩ : ∃ g, fu = g + 1 := ⟨fu - 1, by omega⟩
  rw [f_X3_readForm_L17, pr_sle hq, pb_s, if_neg h4]
  split
  · rfl
  · rfl
theorem pr_L17e {q fu z : Nat} {v3 : Int32} (hq : q < ya_kN) (hz : z = ya_klen.getD q 0 + 1) (hf : 0 < fu) : f_X3_readForm_L17 q fu v3 (nI z) d = some d := by
  have hl := pr_kl q hq
  obtain ⟨g, rfl⟩ : ∃ g, fu = g + 1 := ⟨fu - 1, by omega⟩
  rw [f_X3_readForm_L17, pr_sle hq, pb_s, if_pos (by rw [pn_lt (by omega) (by omega)]; omega)]
theorem pr_cw (ht : pr_tp d0 n b) {q x fu : Nat} {w : List Nat} (h : pr_cS n d0 d l X) (hw : pr_wc q x w) (hf : w.length + 2 ≤ fu) : ∃ d', pr_cS n d0 d' l (pr_tw n b w X) ∧ f_X3_readForm_L17 q fu (nI x) (nI x) d = f_X3_readForm_L17 q (fu - (w.length + 1)) (nI (x + w.length + 1)) (nI (x + w.length + 1)) d' := by
  cases X with
  | inl f =>
    have hz : ¬ d.1 3 4 = 0 := by rw [h.2.1]; exact pr_nz h.2.2.2.1 h.2.2.2.2
    exact ⟨d, h, by rw [pr_L17b hw.1.1 hz (by omega), pr_L17b hw.1.1 hz (by omega)]⟩
  | inr i =>
    obtain ⟨d', A1, A2⟩ := pr_pw ht h hw
    exact ⟨d', A2, by rw [pr_L17 hw.2.1 h.1.2.1 (by omega), A1, pb_s]⟩
theorem pr_cn (ht : pr_tp d0 n b) {q x c fu lo hi : Nat} {H : Int32} (h : pr_cS n d0 d l X) (hw : pr_nc q x c) (hf : 3 ≤ fu) (hl6 : l.length < 6) (hlo : lo ≤ 100) (hhi : hi ≤ 100) (h1 : ∀ d', pr_cN d0 d' l → f_X3_lowestOf (nI c) d' = some (nI lo)) (h2 : ∀ d', pr_cN d0 d' l → f_X3_highestOf (nI c) d' = some H) (hH : H.toInt = (hi : Int) - 1) : ∃ d', pr_cS n d0 d' (l ++ [(pr_tn n b lo hi X).1]) (pr_tn n b lo hi X).2 ∧ f_X3_readForm_L17 q fu (nI x) (nI x) d = f_X3_readForm_L17 q (fu - 2) (nI (x + 2)) (nI (x + 2)) d' := by
  cases X with
  | inl f =>
    have hz : ¬ d.1 3 4 = 0 := by rw [h.2.1]; exact pr_nz h.2.2.2.1 h.2.2.2.2
    exact ⟨d, h, by rw [pr_L17b hw.1.1 hz (by omega), pr_L17b hw.1.1 hz (by omega)]⟩
  | inr i =>
    obtain ⟨d', A1, A2⟩ := pr_pn ht h hw hl6 hlo hhi h1 h2 hH
    exact ⟨d', A2, by rw [pr_L17 hw.1 h.1.2.1 (by omega), A1, pb_s]⟩
end
