theorem ya_dvX11 (b : Nat) : ∀ j, j < 10 → defaultValue (tyX11 j) = vp_V (ya_fl b (fun _ => none) (fun _ => 0) (fun _ => 0) (ya_ft 11) 0) j
  | 0, _ => rfl
  | 1, _ => rfl
  | 2, _ => rfl
  | 3, _ => rfl
  | 4, _ => rfl
  | 5, _ => rfl
  | 6, _ => rfl
  | 7, _ => rfl
  | 8, _ => rfl
  | 9, _ => rfl
  | n + 10, h => absurd h (by omega)
theorem ya_dvX12 (b : Nat) : ∀ j, j < 35 → defaultValue (tyX12 j) = vp_V (ya_fl b (fun _ => none) (fun _ => 0) (fun _ => 0) (ya_ft 12) 0) j
  | 0, _ => rfl
  | 1, _ => rfl
  | 2, _ => rfl
  | 3, _ => rfl
  | 4, _ => rfl
  | 5, _ => rfl
  | 6, _ => rfl
  | 7, _ => rfl
  | 8, _ => rfl
  | 9, _ => rfl
  | 10, _ => rfl
  | 11, _ => rfl
  | 12, _ => rfl
  | 13, _ => rfl
  | 14, _ => rfl
  | 15, _ => rfl
  | 16, _ => rfl
  | 17, _ => rfl
  | 18, _ => rfl
  | 19, _ => rfl
  | 20, _ => rfl
  | 21, _ => rfl
  | 22, _ => rfl
  | 23, _ => rfl
  | 24, _ => rfl
  | 25, _ => rfl
  | 26, _ => rfl
  | 27, _ => rfl
  | 28, _ => rfl
  | 29, _ => rfl
  | 30, _ => rfl
  | 31, _ => rfl
  | 32, _ => rfl
  | 33, _ => rfl
  | 34, _ => rfl
  | n + 35, h => absurd h (by omega)
theorem mk_L_7 : ya_mk RL 7 11 10 := ⟨RX11, TX11, tyX11, rfl, inX11, tyX11_ok, (ya_in 125 (by decide +kernel) (by decide +kernel)), (ya_in 126 (by decide +kernel) (by decide +kernel)), (ya_in 103 (by decide +kernel) (by decide +kernel)), by decide, fun b j hj => by
  revert hj
  exact ya_dvX11 b j⟩
theorem ml_L_9 : Cond.methodLink RL 9 yX11_init ∈ lw_g := ya_in 127 (by decide +kernel) (by decide +kernel)
theorem mk_L_10 : ya_mk RL 10 12 35 := ⟨RX12, TX12, tyX12, rfl, inX12, tyX12_ok, (ya_in 1245 (by decide +kernel) (by decide +kernel)), (ya_in 1246 (by decide +kernel) (by decide +kernel)), (ya_in 114 (by decide +kernel) (by decide +kernel)), by decide, fun b j hj => by
  revert hj
  exact ya_dvX12 b j⟩
theorem ml_L_12 : Cond.methodLink RL 12 yX12_init ∈ lw_g := ya_in 1247 (by decide +kernel) (by decide +kernel)
/-! THE START: what the Statement gives, as the walk's context; the law from its entry -/
theorem ya_lwret {p : Program} {l : Launch} {e : Env} {s : State} {m : MethodId} {args a : Array Value} {below : List Frame} {meth : Method} {c : Code} (hx : p.tables.exec = Jvm.exec) (hb : c.code = code) (hr : meth.sig.returnType = ret) (hlocks : meth.locks = false) {pc : Nat} {H : Heap} {ls : Array Slot} (hdg : decode code pc = .ok (.ireturn, 1)) : W p l e room_1 s m args below meth c H [] 600000 7302250 (lw_Z below a s) (F0 m pc ls [.int 1]) := by
  intro T hT X
  obtain ⟨fs, hret, hrun, hended, hW, hframe⟩ := X.leave (v := some (.int 1)) (hlocks := hlocks) (fun h => by rw [hr] at h; cases h)
  have hmeth' : T.vm.method? m = some meth := X.method'
  refine ⟨T.setFrames fs, ?_, .returned (some (.int 1)), hrun, hended, rfl, ⟨_, rfl⟩, hW, hframe⟩
  jvm_step X.here [X.here.top, hx, hb, hdg, hmeth', hr, ret, narrow_b1]
  (try refine ⟨rfl, ?_⟩); (try refine ⟨rfl, ?_⟩)
  first | (intro acts; rw [hret _ acts rfl rfl rfl]) | rw [hret _ _ rfl rfl rfl]
  exact Steps.refl _
def ya_Γl (a : Array Value) : ya_Γ := fun below _ s => lw_Z below a s
theorem ya_lend {X : ya_X} {nm : String} {a : Array Value} {L : List (Nat × Value)} {G : ya_G} {d : ya_D} {k n : Nat} (hk0 : k = G.1) (hk : k ≤ 600000) (hn : n ≤ 7302250) : ya_E X (Y_law nm) (ya_Γl a) 2029 L [.int 1] G d k n := by
  intro p e s m args below meth c H locs ls hC hH hl
  refine W.widen hk hn (va_forget (fun q hq => ?_) (ya_lwret hC.1 hC.2.1 hC.2.2.2.2.2.2.1 hC.2.2.2.2.2.2.2.1 dL_law_2029))
  have h1 : X.2.1 ≤ q.base := hH.2.1.2.2 q hq
  have h2 := hH.2.2
  omega
def ya_G0 : ya_G := (0, fun _ => (0, 0), fun _ _ => none)
def ya_D0 : ya_D := (fun _ _ => 0, fun _ _ => 0)
def ya_Gs : ya_G := iG_X12_init 83 84 (ya_nH 83 (iG_X11_init 0 1 (ya_nH 0 ya_G0 (11, 0))) (12, 0))
def ya_Ds : ya_D := iD_X12_init 83 84 (ya_nE 83 (iD_X11_init 0 1 (ya_nE 0 ya_D0)))
theorem ya_Gs_1 : ya_Gs.1 = 108 := by decide +kernel
theorem ya_Gs_sh : ∀ i, i < 108 → ya_Gs.2.1 i = ya_sh.getD i (0, 0) := by decide +kernel
theorem ya_Gs_ln : ∀ e ∈ ya_ln, ya_Gs.2.2 e.1 e.2.1 = some e.2.2 := by decide +kernel
theorem ya_Gs_bk : ya_Bk ya_sh ya_ln ya_Gs 0 := by
  refine ⟨by rw [ya_Gs_1]; decide, fun i z hz => ?_, fun j e he => ?_⟩
  · have hi : i < 108 := (List.getElem?_eq_some_iff.mp hz).1
    rw [Nat.zero_add, ya_Gs_sh i hi, List.getD_eq_getElem?_getD, hz]
    rfl
  · rw [Nat.zero_add, Nat.zero_add]
    exact ya_Gs_ln e (List.mem_of_getElem? he)
theorem ya_nH_o {q k : Nat} {G : ya_G} {z : Nat × Nat} : (ya_nH q G z).2.2 q k = none := if_pos rfl
theorem ya_Gs_81 (k : Nat) : ya_Gs.2.2 81 k = none := by
  unfold ya_Gs
  rw [iR_X12_init 81 (by decide) (by decide) k, ya_nH_n (by decide)]
  unfold iG_X11_init
  repeat (first | rw [ya_sR_n (by decide)] | rw [ya_nH_n (by decide)])
  exact ya_nH_o (q := 1 + 80)
theorem ya_Gs_82 (k : Nat) : ya_Gs.2.2 82 k = none := by
  unfold ya_Gs
  rw [iR_X12_init 82 (by decide) (by decide) k, ya_nH_n (by decide)]
  unfold iG_X11_init
  repeat (first | rw [ya_sR_n (by decide)] | rw [ya_nH_n (by decide)])
  exact ya_nH_o (q := 1 + 81)
theorem ya_Gs_dy : ya_Dy ya_Gs := ⟨fun k q h => (by rw [ya_Gs_81] at h; cases h), fun k q h => (by rw [ya_Gs_82] at h; cases h)⟩
set_option maxHeartbeats 1000000 in
set_option maxRecDepth 20000 in
/-- the law from its entry, where the function says yes -/
theorem ya_law_from {X : ya_X} {nm : String} {a : Array Value} (hL : X.2.2.2.2.2.1.2.1 ≤ 3072) (hf : f_law X.2.2.2.2.2.1 ya_F (nI 0) ya_Gs ya_Ds = some ()) : ya_E X (Y_law nm) (ya_Γl a) 0 [(0, .ref X.2.2.2.2.2.1.1)] [] ya_G0 ya_D0 0 0 := by
  refine ya_newO (q := 0) mk_L_7 rfl (Nat.le_of_ble_eq_true rfl) (Nat.le_of_ble_eq_true rfl) dL_law_0 ?_
  refine ya_dup rfl dL_law_3 ?_
  refine ya_callI (rc := (none, iG_X11_init 0 1 (ya_nH 0 ya_G0 (11, 0)), iD_X11_init 0 1 (ya_nE 0 ya_D0))) (S := [.ref (X.2.1 + 0)]) (c_X11_init (a := 0) (N := 1) ya_ob_.new rfl) m_X11_init ml_L_9 rfl ⟨Nat.le_of_ble_eq_true rfl, Nat.le_of_ble_eq_true rfl⟩ (Nat.le_of_ble_eq_true rfl) ⟨Nat.le_of_ble_eq_true rfl, Nat.le_of_ble_eq_true rfl⟩ (iL_X11_init (a := 0) (N := 1) (G := ya_nH 0 ya_G0 (11, 0)) rfl).2 dL_law_4 rfl ?_
  refine ya_astore_n [(1, .ref (X.2.1 + 0)), (0, .ref X.2.2.2.2.2.1.1)] (show 1 < 4 from by decide) rfl dL_law_7 ?_
  refine ya_newO (q := 83) mk_L_10 (iL_X11_init (a := 0) (N := 1) (G := ya_nH 0 ya_G0 (11, 0)) rfl).2 (Nat.le_of_ble_eq_true rfl) (Nat.le_of_ble_eq_true rfl) dL_law_8 ?_
  refine ya_dup rfl dL_law_11 ?_
  refine ya_callI (rc := (none, ya_Gs, ya_Ds)) (S := [.ref (X.2.1 + 83)]) (c_X12_init (a := 83) (N := 84) ya_ob_.new rfl) m_X12_init ml_L_12 rfl ⟨Nat.le_of_ble_eq_true rfl, Nat.le_of_ble_eq_true rfl⟩ (Nat.le_of_ble_eq_true rfl) ⟨Nat.le_of_ble_eq_true rfl, Nat.le_of_ble_eq_true rfl⟩ (iL_X12_init (a := 83) (N := 84) (G := ya_nH 83 (iG_X11_init 0 1 (ya_nH 0 ya_G0 (11, 0))) (12, 0)) rfl).2 dL_law_12 rfl ?_
  refine ya_astore_n [(2, .ref (X.2.1 + 83)), (1, .ref (X.2.1 + 0)), (0, .ref X.2.2.2.2.2.1.1)] (show 2 < 4 from by decide) rfl dL_law_15 ?_
  refine ya_iconst 0 (by decide) dL_law_16 ?_
  refine ya_istore_n [(3, .int 0), (2, .ref (X.2.1 + 83)), (1, .ref (X.2.1 + 0)), (0, .ref X.2.2.2.2.2.1.1)] (show 3 < 4 from by decide) rfl dL_law_17 ?_
  refine ya_sub [(0, .ref X.2.2.2.2.2.1.1), (1, .ref (X.2.1 + 0)), (2, .ref (X.2.1 + 83)), (3, .int (nI 0))] [3, 2, 1, 0] rfl ?_
  exact w_law_loop hL (fun L G d k n h0 h1 h2 => ya_lend h0 h1 h2) ya_F 0 (nI 0) ya_Gs ya_Ds _ _ ya_Gs_bk ya_Gs_dy (by rw [ya_Gs_1]; rfl) (by rw [ya_Gs_1]; decide) (Nat.le_of_ble_eq_true rfl) (by decide) rfl hf
-- what the Statement gives
def ya_ktm (i : Nat) : Term := Term.string (ya_kref.getD i ("", 0, "", 0)).1 (ya_kref.getD i ("", 0, "", 0)).2.1
theorem ya_fl1 : ∀ i, i < ya_kN → Cond.exactly (ya_ktm i) "java/lang/String" ∈ flatC (Jvm.Cond.and given_1 narrow_1) ∧ Cond.eq (.field (ya_ktm i) "java/lang/String" "coder" "B") (.int 0) ∈ flatC (Jvm.Cond.and given_1 narrow_1) ∧ Cond.arrayOf (.field (ya_ktm i) "java/lang/String" "value" "[B") .byte ∈ flatC (Jvm.Cond.and given_1 narrow_1) ∧ Cond.eq (.length (.field (ya_ktm i) "java/lang/String" "value" "[B")) (.int (Int32.ofNat (ya_klen.getD i 0))) ∈ flatC (Jvm.Cond.and given_1 narrow_1) := by decide +kernel
def ya_koff : List Nat := [46, 65, 92, 110, 128, 155, 175, 224, 235, 245, 253, 262, 269, 276, 286, 295, 304, 311, 320, 329, 335, 342, 350, 359, 367, 375, 381]
theorem ya_fl2a : ∀ i, i < ya_kN → ∀ j, j < ya_klen.getD i 0 → (flatC (Jvm.Cond.and given_1 narrow_1))[ya_koff.getD i 0 + 4 + j]? = some (Cond.eq (.elem (.field (ya_ktm i) "java/lang/String" "value" "[B") (.int (Int32.ofNat j))) (.int ((ya_kbyt.getD i []).getD j 0))) := by decide +kernel
theorem ya_fl2 (i : Nat) (hi : i < ya_kN) (j : Nat) (hj : j < ya_klen.getD i 0) : Cond.eq (.elem (.field (ya_ktm i) "java/lang/String" "value" "[B") (.int (Int32.ofNat j))) (.int ((ya_kbyt.getD i []).getD j 0)) ∈ flatC (Jvm.Cond.and given_1 narrow_1) := List.mem_of_getElem? (ya_fl2a i hi j hj)
theorem ya_fl3 : ∀ j, j < 8 → Cond.eq (.elem (.static "YearAgo" "FACTORIAL" "[I") (.int (Int32.ofNat j))) (.int (ya_fact j)) ∈ flatC (Jvm.Cond.and given_1 narrow_1) := by decide +kernel
theorem ya_fl4 : Cond.arrayOf (.static "YearAgo" "FACTORIAL" "[I") .int ∈ flatC (Jvm.Cond.and given_1 narrow_1) ∧ Cond.eq (.length (.static "YearAgo" "FACTORIAL" "[I")) (.int 8) ∈ flatC (Jvm.Cond.and given_1 narrow_1) ∧ Cond.eq (.static "java/lang/String" "COMPACT_STRINGS" "Z") (.int 1) ∈ flatC (Jvm.Cond.and given_1 narrow_1) ∧ Cond.isRef (.static "jdk/internal/util/Preconditions" "SIOOBE_FORMATTER" "Ljava/util/function/BiFunction;") ∈ flatC (Jvm.Cond.and given_1 narrow_1) := by decide +kernel
theorem ya_krefN : ya_kref.length = ya_kN ∧ ∀ k, k < ya_kN → (ya_kref.getD k ("", 0, "", 0)).2.2.2 = k ∧ Cond.stringRef (ya_kref.getD k ("", 0, "", 0)).1 (ya_kref.getD k ("", 0, "", 0)).2.1 (ya_kref.getD k ("", 0, "", 0)).2.2.1 ∈ lw_tbl := by decide +kernel
theorem ya_nestN : ∀ q ∈ ya_nest, Cond.methodLinkNest q.1 q.2.1 q.2.2.1 q.2.2.2 ∈ lw_tbl := by decide +kernel
theorem ya_kapart : ∀ i, i < ya_kN → ∀ j, j < ya_kN → ya_kbyt.getD i [] = ya_kbyt.getD j [] → i = j := by decide +kernel
theorem ya_aow : (Cond.arrayOver (.object "YearAgo$Market") ∈ lw_tbl ∧ Cond.arrayOver (.object "YearAgo$Row") ∈ lw_tbl) ∧ Cond.laysStatic "YearAgo" "FACTORIAL" "[I" ∈ lw_tbl ∧ Cond.laysStatic "java/lang/String" "COMPACT_STRINGS" "Z" ∈ lw_tbl ∧ Cond.laysStatic "jdk/internal/util/Preconditions" "SIOOBE_FORMATTER" "Ljava/util/function/BiFunction;" ∈ lw_tbl ∧ Cond.initialized "YearAgo" ∈ lw_tbl ∧ Cond.initialized "java/lang/String" ∈ lw_tbl ∧ Cond.initialized "jdk/internal/util/Preconditions" ∈ lw_tbl := by decide +kernel
theorem ya_aw : ∀ k, k < 5 → Cond.arrayClass (ya_at (20 + k)) ∈ lw_tbl := by decide +kernel
/-- the texts' cells -/
theorem ya_texts {b : Nat} {s : State} {A : Nat → Prop} (hgv : (Jvm.Cond.and given_1 narrow_1).before #[Value.ref b] s = true) (hA : ∀ a : Nat, a < s.heap.size → ¬ A a) : ∃ adK adV : Nat → Nat, vk_S ya_kN ya_klen ya_kbyt adK adV A s s.heap ∧ ∀ i : Nat, i < ya_kN → (ya_ktm i).eval #[Value.ref b] s none [] s = some (.ref (adK i)) := by
  have hs := flat_of_before _ hgv
  have h0 : ∀ i : Nat, ∃ q : Nat × Nat, i < ya_kN → (ya_ktm i).eval #[Value.ref b] s none [] s = some (.ref q.1) ∧ va_O "java/lang/String" q.1 A s s.heap ∧ va_OF "java/lang/String" "coder" "B" (.int 0) q.1 A s s.heap ∧ va_OF "java/lang/String" "value" "[B" (.ref q.2) q.1 A s s.heap ∧ va_T .byte q.2 (ya_klen.getD i 0) (fun j => .int ((ya_kbyt.getD i []).getD j 0)) A s s.heap := by
    intro i
    by_cases hi : i < ya_kN
    · obtain ⟨w1, w2, w3, w4⟩ := ya_fl1 i hi
      obtain ⟨a, c, cA, kA, q1, q2, q3, q4, q5, q6, -⟩ := Cond.exactly_spec (args := #[Value.ref b]) (first := s) (o := none) (s := s) (idx := []) (t := ya_ktm i) (cls := "java/lang/String") (hs _ w1)
      have hlen := ya_kall i hi
      obtain ⟨t, ht, hT⟩ := va_Tof (f := fun j => .int ((ya_kbyt.getD i []).getD j 0)) (A := A) (by omega) (hs _ w3) (va_eqt (hs _ w4)) (fun j hj => va_eqt (hs _ (ya_fl2 i hi j hj))) hA
      exact ⟨(a, t), fun _ => ⟨q1, ⟨cA, q3, q5, by rw [q6]; exact q2, hA a (Array.getElem?_eq_some_iff.mp q3).1⟩, vk_OFof q1 (va_eqt (hs _ w2)) hA, vk_OFof q1 ht hA, hT⟩⟩
    · exact ⟨(0, 0), fun h => absurd h hi⟩
  obtain ⟨ad, had⟩ := Classical.axiomOfChoice h0
  refine ⟨fun i => (ad i).1, fun i => (ad i).2, ⟨fun i hi => (had i hi).2, fun i j hi hj e => ?_⟩, fun i hi => (had i hi).1⟩
  obtain ⟨-, -, -, ⟨cf, k, fi, f, cell, f1, f2, f3, f4, f5, -⟩, ⟨ci, g1, g2, g3, g4, g5, g6, -⟩⟩ := had i hi
  obtain ⟨-, -, -, ⟨cf', k', fi', f', cell', f1', f2', f3', f4', f5', -⟩, ⟨cj, g1', g2', g3', g4', g5', g6', -⟩⟩ := had j hj
  have e : (ad i).1 = (ad j).1 := e
  rw [e, f3'] at f3
  cases f3
  rw [f1'] at f1
  cases f1
  rw [f5'] at f5
  have e2 : (ad j).2 = (ad i).2 := by
    injection f5 with z
    injection z
  rw [e2, g1] at g1'
  cases g1'
  obtain ⟨l1, l2, -⟩ := ya_kall i hi
  obtain ⟨m1, m2, -⟩ := ya_kall j hj
  have hlen : ya_klen.getD i 0 = ya_klen.getD j 0 := by
    rw [g5] at g5'
    exact (nI_eq (by omega) (by omega)).mp g5'
  refine ya_kapart i hi j hj (List.ext_getElem? fun z => ?_)
  by_cases hz : z < ya_klen.getD i 0
  · have h1 := g6 z hz
    rw [g6' z (by omega)] at h1
    have h2 : (ya_kbyt.getD j []).getD z 0 = (ya_kbyt.getD i []).getD z 0 := by
      injection h1 with w
      injection w
    rw [List.getD_eq_getElem?_getD (l := ya_kbyt.getD j []), List.getD_eq_getElem?_getD (l := ya_kbyt.getD i [])] at h2
    rw [List.getElem?_eq_getElem (show z < (ya_kbyt.getD i []).length by omega), List.getElem?_eq_getElem (show z < (ya_kbyt.getD j []).length by omega)] at h2 ⊢
    exact congrArg some h2.symm
  · rw [List.getElem?_eq_none (by omega), List.getElem?_eq_none (by omega)]
/-- the classes' numbers, the arrays' classes -/
theorem ya_arr {args : Array Value} {s : State} (hts : ∀ w ∈ lw_tbl, w.before args s = true) : ∃ aC : Nat → ClassId, ∀ k, k < 7 → ArrOfT s (aC (20 + k)) (ya_at (20 + k)) ∧ va_RA s (aC (20 + k)) (ya_at (20 + k)) := by
  have h : ∀ k : Nat, ∃ c : ClassId, k < 7 → ArrOfT s c (ya_at (20 + k)) ∧ va_RA s c (ya_at (20 + k)) := by
    intro k
    by_cases hk : k < 5
    · obtain ⟨c, kA, comp, h1, h2, h3⟩ := Cond.arrayClass_spec (hts _ (ya_aw k hk))
      refine ⟨c, fun _ => ⟨fun n z => ⟨fun k h => (by cases h), kA, h2, comp, h3⟩, ?_⟩⟩
      have : k = 0 ∨ k = 1 ∨ k = 2 ∨ k = 3 ∨ k = 4 := by omega
      rcases this with rfl | rfl | rfl | rfl | rfl <;> exact h1
    · by_cases hk5 : k = 5
      · subst hk5
        obtain ⟨comp, c, kA, h1, h2, h3, h4, h5⟩ := Cond.arrayOver_spec (hts _ ya_aow.1.1)
        exact ⟨c, fun _ => ⟨fun n z => ⟨fun k h => (by cases h), kA, h3, comp, h4⟩, kA, comp, h3, h4, h1, h5⟩⟩
      · by_cases hk6 : k = 6
        · subst hk6
          obtain ⟨comp, c, kA, h1, h2, h3, h4, h5⟩ := Cond.arrayOver_spec (hts _ ya_aow.1.2)
          exact ⟨c, fun _ => ⟨fun n z => ⟨fun k h => (by cases h), kA, h3, comp, h4⟩, kA, comp, h3, h4, h1, h5⟩⟩
        · exact ⟨0, fun h => by omega⟩
  obtain ⟨f, hf⟩ := Classical.axiomOfChoice h
  exact ⟨fun k => f (k - 20), fun k hk => by simp only [show 20 + k - 20 = k by omega]; exact hf k hk⟩
theorem ya_cls {args : Array Value} {s : State} (hts : ∀ w ∈ lw_tbl, w.before args s = true) : ∃ (dC : Nat → ClassId) (dI : Nat → Nat → Nat), ∀ (k : Nat) (q : vw_C), ya_cl[k]? = some q → u_Kn s q.1 q.2.1 q.2.2 (dC k) (dI k) := by
  have hin : ∀ {w : Cond}, w ∈ lw_g → w ∈ lw_tbl := fun h => (List.mem_filter.mp h).1
  have h : ∀ k : Nat, ∃ z : ClassId × (Nat → Nat), ∀ q : vw_C, ya_cl[k]? = some q → u_Kn s q.1 q.2.1 q.2.2 z.1 z.2 := by
    intro k
    cases hq : ya_cl[k]? with
    | none => exact ⟨(0, fun _ => 0), fun q h => by cases h⟩
    | some q =>
      have key : ∃ (cC : ClassId) (iS : Nat → Nat), u_Kn s q.1 q.2.1 q.2.2 cC iS := by
        have hk : k < 13 := (List.getElem?_eq_some_iff.mp hq).1
        have : k = 0 ∨ k = 1 ∨ k = 2 ∨ k = 3 ∨ k = 4 ∨ k = 5 ∨ k = 6 ∨ k = 7 ∨ k = 8 ∨ k = 9 ∨ k = 10 ∨ k = 11 ∨ k = 12 := by omega
        rcases this with rfl | rfl | rfl | rfl | rfl | rfl | rfl | rfl | rfl | rfl | rfl | rfl | rfl
        · obtain rfl := Option.some.inj hq; exact u_known hts (fun w hw => hin (inX0 w hw)) (hts _ (List.mem_of_getElem? (show lw_tbl[467]? = some (Cond.instantiable RX0 1) by decide +kernel)))
        · obtain rfl := Option.some.inj hq; exact u_known hts (fun w hw => hin (inX1 w hw)) (hts _ (List.mem_of_getElem? (show lw_tbl[234]? = some (Cond.instantiable RX1 7) by decide +kernel)))
        · obtain rfl := Option.some.inj hq; exact u_known hts (fun w hw => hin (inX2 w hw)) (hts _ (List.mem_of_getElem? (show lw_tbl[157]? = some (Cond.instantiable RX2 6) by decide +kernel)))
        · obtain rfl := Option.some.inj hq; exact u_known hts (fun w hw => hin (inX3 w hw)) (hts _ (List.mem_of_getElem? (show lw_tbl[151]? = some (Cond.instantiable RX3 6) by decide +kernel)))
        · obtain rfl := Option.some.inj hq; exact u_known hts (fun w hw => hin (inX4 w hw)) (hts _ (List.mem_of_getElem? (show lw_tbl[1202]? = some (Cond.instantiable RX4 3) by decide +kernel)))
        · obtain rfl := Option.some.inj hq; exact u_known hts (fun w hw => hin (inX5 w hw)) (hts _ (List.mem_of_getElem? (show lw_tbl[435]? = some (Cond.instantiable RX5 8) by decide +kernel)))
        · obtain rfl := Option.some.inj hq; exact u_known hts (fun w hw => hin (inX6 w hw)) (hts _ (List.mem_of_getElem? (show lw_tbl[202]? = some (Cond.instantiable RX6 5) by decide +kernel)))
        · obtain rfl := Option.some.inj hq; exact u_known hts (fun w hw => hin (inX7 w hw)) (hts _ (List.mem_of_getElem? (show lw_tbl[134]? = some (Cond.instantiable RX7 2) by decide +kernel)))
        · obtain rfl := Option.some.inj hq; exact u_known hts (fun w hw => hin (inX8 w hw)) (hts _ (List.mem_of_getElem? (show lw_tbl[163]? = some (Cond.instantiable RX8 5) by decide +kernel)))
        · obtain rfl := Option.some.inj hq; exact u_known hts (fun w hw => hin (inX9 w hw)) (hts _ (List.mem_of_getElem? (show lw_tbl[318]? = some (Cond.instantiable RX9 4) by decide +kernel)))
        · obtain rfl := Option.some.inj hq; exact u_known hts (fun w hw => hin (inX10 w hw)) (hts _ (List.mem_of_getElem? (show lw_tbl[364]? = some (Cond.instantiable RX10 17) by decide +kernel)))
        · obtain rfl := Option.some.inj hq; exact u_known hts (fun w hw => hin (inX11 w hw)) (hts _ (List.mem_of_getElem? (show lw_tbl[126]? = some (Cond.instantiable RX11 10) by decide +kernel)))
        · obtain rfl := Option.some.inj hq; exact u_known hts (fun w hw => hin (inX12 w hw)) (hts _ (List.mem_of_getElem? (show lw_tbl[1246]? = some (Cond.instantiable RX12 35) by decide +kernel)))
      obtain ⟨cC, iS, hk⟩ := key
      exact ⟨(cC, iS), fun q' h => by cases h; exact hk⟩
  obtain ⟨f, hf⟩ := Classical.axiomOfChoice h
  exact ⟨fun k => (f k).1, fun k => (f k).2, hf⟩
set_option maxHeartbeats 4000000 in
set_option maxRecDepth 20000 in
/-- from the entry: where the functions of class and reference agree on the script, the law comes to its end with true -/
theorem ya_start {p : Program} {e : Env} {s : State} {m : MethodId} {below : List Frame} {meth : Method} {c : Code} (l : Launch) {b L : Nat} {xs : Nat → Int32} (hL : L ≤ 3072) (C0 : lw_At p s m meth c b L xs) (hf : f_law (b, L, xs) ya_F (nI 0) ya_Gs ya_Ds = some ()) : W p l e room_1 s m #[Value.ref b] below meth c s.heap [] 0 0 (lw_Z below #[Value.ref b] s) (entryFrame m ([Value.ref b] : List Value).toArray 4) := by
  obtain ⟨hx, hb, hr, hml, hown, hts, hX, hbl, hlocks, hgv⟩ := C0
  have hA : ∀ a : Nat, a < s.heap.size → ¬ (fun q : Nat => s.heap.size ≤ q) a := fun a h => Nat.not_le.mpr h
  have hs := flat_of_before _ hgv
  obtain ⟨dC, dI, hKc⟩ := ya_cls hts
  obtain ⟨aC, hKa⟩ := ya_arr hts
  obtain ⟨adK, adV, hS, hSt⟩ := ya_texts (A := fun q : Nat => s.heap.size ≤ q) hgv hA
  obtain ⟨w1, w2, w3, w4⟩ := ya_fl4
  obtain ⟨fa, hfa, hfT⟩ := va_Tof (N := 8) (f := fun j => .int (ya_fact j)) (A := fun q : Nat => s.heap.size ≤ q) (by decide) (hs _ w1) (va_eqt (hs _ w2)) (fun j hj => va_eqt (hs _ (ya_fl3 j hj))) hA
  obtain ⟨⟨v1, v2⟩, v3, v4, v5, v6, v7, v8⟩ := ya_aow
  have hl := lv_entry ([.ref b]) (n := 4) (Nat.le_of_ble_eq_true rfl)
  rw [lg_entry_eq]
  generalize (lg_sl ([.ref b]) ++ List.replicate (4 - (lg_sl ([.ref b])).length) Slot.unset).toArray = ls at hl ⊢
  have key := ya_law_from (X := (l, s.heap.size, dC, dI, aC, (b, L, xs), adK, adV, fa)) (nm := meth.name) (a := #[Value.ref b]) hL hf
  refine key p e s m #[Value.ref b] below meth c s.heap [] ls ⟨hx, hb, hml, hown, fun w hw => hts w (List.mem_filter.mp hw).1, ⟨hKc, ?_⟩, hr, hlocks, rfl, ?_, Nat.le_refl _⟩ ⟨fun k q h => by simp [ya_w, ya_G0] at h, va_S.rf, rfl⟩ hl
  · intro k q hq
    have hk : k < 7 := by
      have := (List.getElem?_eq_some_iff.mp hq).1
      simpa [ya_ty] using this
    have h20 := ya_tyat (X := (l, s.heap.size, dC, dI, aC, (b, L, xs), adK, adV, fa)) (k := 20 + k) (by omega) (by omega)
    rw [show 20 + k - 20 = k by omega, hq] at h20
    obtain rfl := Option.some.inj h20
    exact hKa k hk
  · refine ⟨?_, hS, ?_, va_Zref (hts _ v3) (hts _ v6) hfa hA, hfT, va_Zof (hts _ v4) (hts _ v7) (va_eqt (hs _ w3)) hA, ?_, ⟨va_AO.of (hts _ v1), va_AO.of (hts _ v2)⟩, va_Zqof (hts _ v5) (hts _ v8) (hs _ w4) hA⟩
    · obtain ⟨scr, h1, h2, h3, h4, h5⟩ := hX
      exact ⟨scr, h1, h2, h3, Nat.le_of_eq h4.symm, by rw [h4], h5, hA b hbl⟩
    · intro k q hq
      have hk : k < ya_kN := by
        have := (List.getElem?_eq_some_iff.mp hq).1
        rwa [ya_krefN.1] at this
      obtain ⟨z1, z2⟩ := ya_krefN.2 k hk
      have hgd : ya_kref.getD k ("", 0, "", 0) = q := by rw [List.getD_eq_getElem?_getD, hq]; rfl
      rw [hgd] at z1 z2
      have z3 := hSt k hk
      unfold ya_ktm at z3
      rw [hgd] at z3
      rw [z1]
      exact vk_R.of (hts _ z2) z3
    · intro k q hq
      exact va_Nw.of rfl (hts _ (ya_nestN q (List.mem_of_getElem? hq)))
