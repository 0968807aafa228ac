/-! CALLS, ENDS, CONTRACTS over ya_E -/
section
variable {X : ya_X} {Y : ya_Y} {Γ : ya_Γ} {pc : Nat} {L : List (Nat × Value)} {S : List Value} {G : ya_G} {d : ya_D} {k n : Nat}
/-- a contract out of a walk -/
theorem ya_ct {y : MethodName} {args : List Value} {r : ya_r} (hy : plainName y.cls = true) (hyc : y.cls = Y.2.1) (hyn : y.name = Y.2.2.2.2.1) (hlen : (lg_sl args).length ≤ Y.2.2.1)
    (body : ya_E X Y (ya_M X r Y.2.2.2.2.2.cells Y.2.2.2.2.2.slots) 0 (lv_args 0 args) [] G d 0 0) : ya_Ct X y Y args G d r := by
  refine Met.ofW (cc := Y.1) (maxL := Y.2.2.1) (ret := Y.2.2.2.1) hy rfl ?_
  intro p e s m args' below meth c s₁ B hml hv
  obtain ⟨rfl, hP, hz, hK, hR⟩ := hv
  have hts := atoms_spec (ws := Cond.code y Y.1 Y.2.2.1 Y.2.2.2.1 :: lw_g) B.pre
  have hown : s.vm.findClass Y.2.1 = some m.cls := hyc ▸ findClass_of_methodNamed B.named
  have hl := lv_entry args (n := Y.2.2.1) hlen
  rw [lg_entry_eq]
  generalize (lg_sl args ++ List.replicate (Y.2.2.1 - (lg_sl args).length) Slot.unset).toArray = ls at hl ⊢
  exact body p e s m args.toArray below meth c s.heap [] ls ⟨B.exec, B.bytes, hml, hown, fun w hw => hts w (List.mem_cons_of_mem _ hw), hK, B.returns, B.notSynchronized, (name_of_methodNamed B.named B.method).1.trans hyn, hR, by omega⟩ ⟨hP, va_S.rf, by omega⟩ hl
theorem ya_iret {v : Int32} {G' : ya_G} {d' : ya_D} {o : Option Value} {mc ms : Nat} (hv : some (.int v) = o) (hG : G = G') (hD : d = d') (hr : Y.2.2.2.1 = some .int) (hk : k = mc) (hn : n ≤ ms) (hd : decode Y.1 pc = .ok (.ireturn, 1)) : ya_E X Y (ya_M X (o, G', d') mc ms) pc L [.int v] G d k n := by
  intro p e s m args below meth c H locs ls hC hH hl
  subst hG; subst hD; subst hk; subst hv
  refine W.widen (Nat.le_refl _) hn ?_
  intro T hT Xs
  have hz := ya_size hH hC.2.2.2.2.2.2.2.2.2.2 hT Xs.heapSize
  exact W.iret hC.1 hC.2.1 (hC.2.2.2.2.2.2.1.trans hr) (fun t ht _ => ⟨rfl, by rw [ht]; exact hH.1, by rw [ht]; exact hz, hH.2.1.F ht⟩) hH.2.1.2.2 hd hC.2.2.2.2.2.2.2.1 T hT Xs
theorem ya_zret {v : Int32} {G' : ya_G} {d' : ya_D} {o : Option Value} {mc ms : Nat} (ty : FieldType) (hv : some (.int v) = o) (hG : G = G') (hD : d = d') (hr : Y.2.2.2.1 = some ty) (hnw : narrow ty (.int v) = .int v) (hk : k = mc) (hn : n ≤ ms) (hd : decode Y.1 pc = .ok (.ireturn, 1)) : ya_E X Y (ya_M X (o, G', d') mc ms) pc L [.int v] G d k n := by
  intro p e s m args below meth c H locs ls hC hH hl
  subst hG; subst hD; subst hk; subst hv
  refine W.widen (Nat.le_refl _) hn ?_
  intro T hT Xs
  have hz := ya_size hH hC.2.2.2.2.2.2.2.2.2.2 hT Xs.heapSize
  exact W.zret hC.1 hC.2.1 (hC.2.2.2.2.2.2.1.trans hr) hnw (fun t ht _ => ⟨rfl, by rw [ht]; exact hH.1, by rw [ht]; exact hz, hH.2.1.F ht⟩) hH.2.1.2.2 hd hC.2.2.2.2.2.2.2.1 T hT Xs
theorem ya_bnar (b : Bool) : narrow .boolean (.int (ya_bI b)) = .int (ya_bI b) := by cases b <;> decide
theorem ya_lret {v : Int64} {G' : ya_G} {d' : ya_D} {o : Option Value} {mc ms : Nat} (hv : some (.long v) = o) (hG : G = G') (hD : d = d') (hr : Y.2.2.2.1 = some .long) (hk : k = mc) (hn : n ≤ ms) (hd : decode Y.1 pc = .ok (.lreturn, 1)) : ya_E X Y (ya_M X (o, G', d') mc ms) pc L [.long v] G d k n := by
  intro p e s m args below meth c H locs ls hC hH hl
  subst hG; subst hD; subst hk; subst hv
  refine W.widen (Nat.le_refl _) hn ?_
  intro T hT Xs
  have hz := ya_size hH hC.2.2.2.2.2.2.2.2.2.2 hT Xs.heapSize
  exact W.lret hC.1 hC.2.1 (hC.2.2.2.2.2.2.1.trans hr) (fun t ht _ => ⟨rfl, by rw [ht]; exact hH.1, by rw [ht]; exact hz, hH.2.1.F ht⟩) hH.2.1.2.2 hd hC.2.2.2.2.2.2.2.1 T hT Xs
theorem ya_vret {G' : ya_G} {d' : ya_D} {o : Option Value} {mc ms : Nat} (hv : none = o) (hG : G = G') (hD : d = d') (hr : Y.2.2.2.1 = none) (hk : k = mc) (hn : n ≤ ms) (hd : decode Y.1 pc = .ok (.return_, 1)) : ya_E X Y (ya_M X (o, G', d') mc ms) pc L [] G d k n := by
  intro p e s m args below meth c H locs ls hC hH hl
  subst hG; subst hD; subst hk; subst hv
  refine W.widen (Nat.le_refl _) hn ?_
  intro T hT Xs
  have hz := ya_size hH hC.2.2.2.2.2.2.2.2.2.2 hT Xs.heapSize
  exact W.vret hC.1 hC.2.1 (hC.2.2.2.2.2.2.1.trans hr) (fun t ht _ => ⟨rfl, by rw [ht]; exact hH.1, by rw [ht]; exact hz, hH.2.1.F ht⟩) hH.2.1.2.2 hd hC.2.2.2.2.2.2.2.1 T hT Xs
theorem ya_aret {a : Nat} {rt : FieldType} {G' : ya_G} {d' : ya_D} {o : Option Value} {mc ms : Nat} (hrt : (∃ n, rt = .object n) ∨ ∃ t, rt = .array t) (hv : some (.ref a) = o) (hG : G = G') (hD : d = d') (hr : Y.2.2.2.1 = some rt) (hk : k = mc) (hn : n ≤ ms) (hd : decode Y.1 pc = .ok (.areturn, 1)) : ya_E X Y (ya_M X (o, G', d') mc ms) pc L [.ref a] G d k n := by
  intro p e s m args below meth c H locs ls hC hH hl
  subst hG; subst hD; subst hk; subst hv
  refine W.widen (Nat.le_refl _) hn ?_
  intro T hT Xs
  have hz := ya_size hH hC.2.2.2.2.2.2.2.2.2.2 hT Xs.heapSize
  exact W.aret hC.1 hC.2.1 (hC.2.2.2.2.2.2.1.trans hr) hrt (Or.inr ⟨_, rfl⟩) (fun t ht _ => ⟨rfl, by rw [ht]; exact hH.1, by rw [ht]; exact hz, hH.2.1.F ht⟩) hH.2.1.2.2 hd hC.2.2.2.2.2.2.2.1 T hT Xs
/-- behind a call -/
theorem ya_back {p : Program} {e : Env} {s : State} {m : MethodId} {args : Array Value} {below : List Frame} {meth : Method} {c : Code} {H : Heap} {locs : List Loc} {ls : Array Slot} {S0 : List Value} {mc ms : Nat} {rc : ya_r} {a : Array Value}
    (hC : ya_C X Y p s m args meth c) (hH : ya_H X G d k s H locs) (hl : lv_has ls Y.2.2.1 L) (hG : rc.2.1.1 = G.1 + mc)
    (run : ∀ T : State, T.heap = H → Stand p X.1 e Y.2.2.2.2.2 s m args below meth c T locs k n → va_Run p X.1 e Y.2.2.2.2.2 s m args below meth c H locs k n mc ms (F0 m pc ls S0) S (ya_Q X rc a) (ya_A X))
    (kk : ya_E X Y Γ (pc + 3) L (rc.1.toList ++ S) rc.2.1 rc.2.2 (k + mc) (n + ms)) : W p X.1 e Y.2.2.2.2.2 s m args below meth c H locs k n (Γ below args s) (F0 m pc ls S0) := by
  intro T hT Xs
  obtain ⟨v, st₀, t, T', Lc, h0, X', hL, e1, e2, ⟨hoc, hP', hz', hF1, hF2⟩, st⟩ := run T hT Xs T hT Xs
  cases hoc
  rw [h0] at hF1 hF2
  obtain ⟨t2, a1, b1⟩ := kk p e s m args below meth c T'.heap (locs ++ Lc) ls hC ⟨by rw [e1]; exact hP', ⟨Nat.le_trans hH.2.1.1 (by rw [e1]; exact hF1), fun q h1 h2 => by rw [e1, hF2 q (Nat.lt_of_lt_of_le h1 hH.2.1.1) h2]; exact hH.2.1.2.1 q h1 h2, fun q hq => by
      rcases List.mem_append.mp hq with h | h
      · exact hH.2.1.2.2 q h
      · exact hL q h⟩, by have := hH.2.2; omega⟩ hl T' rfl X'
  exact ⟨t2, st t2 a1, b1⟩
/-- what a callee's start asks -/
theorem ya_pre {s : State} {H : Heap} {locs : List Loc} {m : MethodId} {args : Array Value} {meth : Method} {c : Code} {p : Program} {As : List Value} (hC : ya_C X Y p s m args meth c) (hH : ya_H X G d k s H locs) (hz : H.size = X.2.1 + G.1) : PreS s H (va_Pc As (ya_P X G d)) As := by
  refine ⟨fun a U g mk q => ?_, fun U hU hW => ⟨rfl, by rw [hU]; exact hH.1, by rw [hU]; exact hz, va_K.moved hW.alike hC.2.2.2.2.2.1, hC.2.2.2.2.2.2.2.2.2.1.next hH.2.1 hU hW⟩⟩
  obtain ⟨q0, q1, q2, q3, q4⟩ := q
  exact ⟨q0, q1, q2, va_K.moved (u := U) (U := U.calling g mk a) (Vm.Alike.refl U.vm) q3, q4.calling⟩
/-- a method that a call may reach: by what the tables say -/
def ya_m0 (y : MethodName) (Yc : ya_Y) (np : Nat) : Prop := (y.cls ≠ "java/lang/invoke/MethodHandle" ∧ y.cls ≠ "java/lang/invoke/VarHandle" ∧ (parseMethodDescriptor y.desc).map (fun d => d.parameters.length) = some np) ∧ Cond.initialized y.cls ∈ lw_g ∧ Cond.code y Yc.1 Yc.2.2.1 Yc.2.2.2.1 ∈ lw_g
def ya_mV (y : MethodName) (Yc : ya_Y) (np : Nat) : Prop := ya_m0 y Yc np ∧ Cond.instanceMethod y ∈ lw_g ∧ Cond.selects y.cls y y ∈ lw_g
def ya_mS (y : MethodName) (Yc : ya_Y) (np : Nat) : Prop := ya_m0 y Yc np ∧ Cond.static y ∈ lw_g
def ya_mI (y : MethodName) (Yc : ya_Y) (np : Nat) : Prop := ya_m0 y Yc np ∧ Cond.instanceMethod y ∈ lw_g ∧ y.name = "<init>" ∧ Yc.2.2.2.1 = none
def ya_fit (Y Yc : ya_Y) : Prop := Yc.2.2.2.2.2.frames + 1 ≤ Y.2.2.2.2.2.frames ∧ 8 + (Yc.2.2.1 + 11) + Yc.2.2.2.2.2.locals ≤ Y.2.2.2.2.2.locals
theorem ya_callV {y : MethodName} {Yc : ya_Y} {a i np : Nat} {As S0 : List Value} {rc : ya_r} {ci : Nat} {q : vw_C} (hct : ya_Ct X y Yc (.ref (X.2.1 + a) :: As) G d rc) (hm : ya_mV y Yc np) (hlk : Cond.methodLink Y.2.1 i y ∈ lw_g) (hn : As.length = np) (hfit : ya_fit Y Yc) (hcat : (S.map fun v => v.category).sum ≤ 8)
    (hf : k + Yc.2.2.2.2.2.cells ≤ Y.2.2.2.2.2.cells ∧ n + Yc.2.2.2.2.2.slots ≤ Y.2.2.2.2.2.slots) (hG : rc.2.1.1 = G.1 + Yc.2.2.2.2.2.cells) (ha : a < G.1) (hs : (G.2.1 a).1 = ci) (hci : ci < 20) (hcl : ya_cl[ci]? = some q) (hq : q.1 = y.cls) (hd : decode Y.1 pc = .ok (.invokevirtual i, 3)) (hst : S0 = As.reverse ++ .ref (X.2.1 + a) :: S)
    (kk : ya_E X Y Γ (pc + 3) L (rc.1.toList ++ S) rc.2.1 rc.2.2 (k + Yc.2.2.2.2.2.cells) (n + Yc.2.2.2.2.2.slots)) : ya_E X Y Γ pc L S0 G d k n := by
  intro p e s m args below meth c H locs ls hC hH hl
  refine ya_back hC hH hl hG (ms := Yc.2.2.2.2.2.slots) (a := (Value.ref (X.2.1 + a) :: As).toArray) (fun T hT Xs => ?_) kk
  have hz := ya_size hH hC.2.2.2.2.2.2.2.2.2.2 hT Xs.heapSize
  have hts := hC.2.2.2.2.1
  have hpre := ya_pre (As := .ref (X.2.1 + a) :: As) hC hH hz
  have hobj : (ya_w X G d)[a]? = some (X.2.1 + a, .inr (ci, ya_fl X.2.1 (G.2.2 a) (d.1 a) (d.2 a) (ya_ft ci) 0)) := by
    rw [ya_w_at ha]
    simp [ya_e, hs, hci]
  exact va_runV ⟨hC.1, hC.2.1, hC.2.2.1, hC.2.2.2.1, hts⟩ hct
    ⟨callB_of np hts (ya_goodIn hm.1.2.2) rfl rfl rfl (hts _ hm.1.2.1) (hts _ hlk) hm.1.1 hfit, hts _ hm.2.1, hts _ hm.2.2⟩
    ⟨hpre.1, hq ▸ va_recv hC.2.2.2.2.2.1 hH.1 hcl hobj, hpre.2⟩ rfl hn (hl.1) (by rw [hst]) (by simpa [JFrame.monitorRoom] using hcat) hd hf
theorem ya_callS {y : MethodName} {Yc : ya_Y} {i np : Nat} {As S0 : List Value} {rc : ya_r} (hct : ya_Ct X y Yc As G d rc) (hm : ya_mS y Yc np) (hlk : Cond.methodLink Y.2.1 i y ∈ lw_g) (hn : As.length = np) (hfit : ya_fit Y Yc) (hcat : (S.map fun v => v.category).sum ≤ 8)
    (hf : k + Yc.2.2.2.2.2.cells ≤ Y.2.2.2.2.2.cells ∧ n + Yc.2.2.2.2.2.slots ≤ Y.2.2.2.2.2.slots) (hG : rc.2.1.1 = G.1 + Yc.2.2.2.2.2.cells) (hd : decode Y.1 pc = .ok (.invokestatic i, 3)) (hst : S0 = As.reverse ++ S)
    (kk : ya_E X Y Γ (pc + 3) L (rc.1.toList ++ S) rc.2.1 rc.2.2 (k + Yc.2.2.2.2.2.cells) (n + Yc.2.2.2.2.2.slots)) : ya_E X Y Γ pc L S0 G d k n := by
  intro p e s m args below meth c H locs ls hC hH hl
  refine ya_back hC hH hl hG (ms := Yc.2.2.2.2.2.slots) (a := As.toArray) (fun T hT Xs => ?_) kk
  have hz := ya_size hH hC.2.2.2.2.2.2.2.2.2.2 hT Xs.heapSize
  have hts := hC.2.2.2.2.1
  exact va_runS ⟨hC.1, hC.2.1, hC.2.2.1, hC.2.2.2.1, hts⟩ hct
    ⟨callB_of np hts (ya_goodIn hm.1.2.2) rfl rfl rfl (hts _ hm.1.2.1) (hts _ hlk) hm.1.1 hfit, hts _ hm.2⟩
    (ya_pre hC hH hz) rfl hn (hl.1) (by rw [hst]) (by simpa [JFrame.monitorRoom] using hcat) hd hf
theorem ya_nestw {s : State} {q : String × Nat × MethodName × String} (hR : ya_R X s) (j : Nat) (hj : ya_nest[j]? = some q) : va_Nw (.methodLinkNest q.1 q.2.1 q.2.2.1 q.2.2.2) s := hR.2.2.2.2.2.2.1 j q hj
theorem ya_callSN {y : MethodName} {Yc : ya_Y} {i np : Nat} {As S0 : List Value} {rc : ya_r} {host : String} (hct : ya_Ct X y Yc As G d rc) (hm : ya_mS y Yc np) (j : Nat) (hj : ya_nest[j]? = some (Y.2.1, i, y, host)) (hn : As.length = np) (hfit : ya_fit Y Yc) (hcat : (S.map fun v => v.category).sum ≤ 8)
    (hf : k + Yc.2.2.2.2.2.cells ≤ Y.2.2.2.2.2.cells ∧ n + Yc.2.2.2.2.2.slots ≤ Y.2.2.2.2.2.slots) (hG : rc.2.1.1 = G.1 + Yc.2.2.2.2.2.cells) (hd : decode Y.1 pc = .ok (.invokestatic i, 3)) (hst : S0 = As.reverse ++ S)
    (kk : ya_E X Y Γ (pc + 3) L (rc.1.toList ++ S) rc.2.1 rc.2.2 (k + Yc.2.2.2.2.2.cells) (n + Yc.2.2.2.2.2.slots)) : ya_E X Y Γ pc L S0 G d k n := by
  intro p e s m args below meth c H locs ls hC hH hl
  refine ya_back hC hH hl hG (ms := Yc.2.2.2.2.2.slots) (a := As.toArray) (fun T hT Xs => ?_) kk
  have hz := ya_size hH hC.2.2.2.2.2.2.2.2.2.2 hT Xs.heapSize
  have hts := hC.2.2.2.2.1
  exact va_runSN ⟨hC.1, hC.2.1, hC.2.2.1, hC.2.2.2.1, hts⟩ hct
    ⟨va_cnB np hts (ya_goodIn hm.1.2.2) rfl rfl rfl (ya_nestw hC.2.2.2.2.2.2.2.2.2.1 j hj) (hts _ hm.1.2.1) hm.1.1 hfit, hts _ hm.2, trivial⟩
    (ya_pre hC hH hz) rfl hn (hl.1) (by rw [hst]) (by simpa [JFrame.monitorRoom] using hcat) hd hf
theorem ya_callIN {y : MethodName} {Yc : ya_Y} {a i np : Nat} {As S0 : List Value} {rc : ya_r} {host : String} (hct : ya_Ct X y Yc (.ref (X.2.1 + a) :: As) G d rc) (hm : ya_mI y Yc np) (j : Nat) (hj : ya_nest[j]? = some (Y.2.1, i, y, host)) (hn : As.length = np) (hfit : ya_fit Y Yc) (hcat : (S.map fun v => v.category).sum ≤ 8)
    (hf : k + Yc.2.2.2.2.2.cells ≤ Y.2.2.2.2.2.cells ∧ n + Yc.2.2.2.2.2.slots ≤ Y.2.2.2.2.2.slots) (hG : rc.2.1.1 = G.1 + Yc.2.2.2.2.2.cells) (hd : decode Y.1 pc = .ok (.invokespecial i, 3)) (hst : S0 = As.reverse ++ .ref (X.2.1 + a) :: S)
    (kk : ya_E X Y Γ (pc + 3) L (rc.1.toList ++ S) rc.2.1 rc.2.2 (k + Yc.2.2.2.2.2.cells) (n + Yc.2.2.2.2.2.slots)) : ya_E X Y Γ pc L S0 G d k n := by
  intro p e s m args below meth c H locs ls hC hH hl
  refine ya_back hC hH hl hG (ms := Yc.2.2.2.2.2.slots) (a := (Value.ref (X.2.1 + a) :: As).toArray) (fun T hT Xs => ?_) kk
  have hz := ya_size hH hC.2.2.2.2.2.2.2.2.2.2 hT Xs.heapSize
  have hts := hC.2.2.2.2.1
  obtain ⟨hm1, hm2, hm3, hm4⟩ := hm
  have hct' := hct
  unfold ya_Ct at hct'
  rw [hm4] at hct'
  exact va_runIN ⟨hC.1, hC.2.1, hC.2.2.1, hC.2.2.2.1, hts⟩ hct'
    ⟨va_cnB np hts (hm4 ▸ ya_goodIn hm1.2.2) rfl rfl rfl (ya_nestw hC.2.2.2.2.2.2.2.2.2.1 j hj) (hts _ hm1.2.1) hm1.1 hfit, hm3, hts _ hm2⟩
    (ya_pre hC hH hz) rfl hn (hl.1) (by rw [hst]) (by simpa [JFrame.monitorRoom] using hcat) hd hf
theorem ya_callI {y : MethodName} {Yc : ya_Y} {a i np : Nat} {As S0 : List Value} {rc : ya_r} (hct : ya_Ct X y Yc (.ref (X.2.1 + a) :: As) G d rc) (hm : ya_mI y Yc np) (hlk : Cond.methodLink Y.2.1 i y ∈ lw_g) (hn : As.length = np) (hfit : ya_fit Y Yc) (hcat : (S.map fun v => v.category).sum ≤ 8)
    (hf : k + Yc.2.2.2.2.2.cells ≤ Y.2.2.2.2.2.cells ∧ n + Yc.2.2.2.2.2.slots ≤ Y.2.2.2.2.2.slots) (hG : rc.2.1.1 = G.1 + Yc.2.2.2.2.2.cells) (hd : decode Y.1 pc = .ok (.invokespecial i, 3)) (hst : S0 = As.reverse ++ .ref (X.2.1 + a) :: S)
    (kk : ya_E X Y Γ (pc + 3) L (rc.1.toList ++ S) rc.2.1 rc.2.2 (k + Yc.2.2.2.2.2.cells) (n + Yc.2.2.2.2.2.slots)) : ya_E X Y Γ pc L S0 G d k n := by
  intro p e s m args below meth c H locs ls hC hH hl
  refine ya_back hC hH hl hG (ms := Yc.2.2.2.2.2.slots) (a := (Value.ref (X.2.1 + a) :: As).toArray) (fun T hT Xs => ?_) kk
  have hz := ya_size hH hC.2.2.2.2.2.2.2.2.2.2 hT Xs.heapSize
  have hts := hC.2.2.2.2.1
  obtain ⟨hm1, hm2, hm3, hm4⟩ := hm
  have hct' := hct
  unfold ya_Ct at hct'
  rw [hm4] at hct'
  exact va_runI ⟨hC.1, hC.2.1, hC.2.2.1, hC.2.2.2.1, hts⟩ hct'
    ⟨callB_of np hts (hm4 ▸ ya_goodIn hm1.2.2) rfl rfl rfl (hts _ hm1.2.1) (hts _ hlk) hm1.1 hfit, hm3, hts _ hm2⟩
    (ya_pre hC hH hz) rfl hn (hl.1) (by rw [hst]) (by simpa [JFrame.monitorRoom] using hcat) hd hf
/-- Object.<init> -/
theorem ya_obj {a i : Nat} (hlk : Cond.methodLink Y.2.1 i Lib.objectInit ∈ lw_g) (h1 : Cond.instanceMethod Lib.objectInit ∈ lw_g) (h2 : Cond.code Lib.objectInit ⟨#[0xb1]⟩ 1 none ∈ lw_g) (hfr : 1 ≤ Y.2.2.2.2.2.frames) (hlo : (S.map fun v => v.category).sum + 12 ≤ Y.2.2.2.2.2.locals) (hd : decode Y.1 pc = .ok (.invokespecial i, 3))
    (kk : ya_E X Y Γ (pc + 3) L S G d k n) : ya_E X Y Γ pc L (.ref a :: S) G d k n := by
  intro p e s m args below meth c H locs ls hC hH hl
  exact W.objInit hC.1 hC.2.1 hC.2.2.2.1 (hC.2.2.2.2.1 _ hlk) (hC.2.2.2.2.1 _ h1) (hC.2.2.2.2.1 _ h2) rfl (hl.1.trans hC.2.2.1.symm) rfl hd hfr (by simpa [JFrame.monitorRoom] using hlo) (kk p e s m args below meth c H locs ls hC hH hl)
end
