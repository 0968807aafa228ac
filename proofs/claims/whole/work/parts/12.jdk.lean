/-! The JDK's own methods -/
abbrev Y_J7_fill_53178 : ya_Y := (cJ7_fill_53178, RJ7, 4, none, "fill", { frames := 0, cells := 0, slots := 0, locals := 0 })
theorem m_J7_fill_53178 : ya_mS yJ7_fill_53178 Y_J7_fill_53178 2 := ⟨⟨⟨by decide +kernel, by decide +kernel, by decide +kernel⟩, (ya_in 122 (by decide +kernel) (by decide +kernel)), (ya_in 800 (by decide +kernel) (by decide +kernel))⟩, (ya_in 799 (by decide +kernel) (by decide +kernel))⟩
abbrev Y_J7_fill_d0a16 : ya_Y := (cJ7_fill_d0a16, RJ7, 5, none, "fill", { frames := 0, cells := 0, slots := 0, locals := 0 })
theorem m_J7_fill_d0a16 : ya_mS yJ7_fill_d0a16 Y_J7_fill_d0a16 2 := ⟨⟨⟨by decide +kernel, by decide +kernel, by decide +kernel⟩, (ya_in 122 (by decide +kernel) (by decide +kernel)), (ya_in 1227 (by decide +kernel) (by decide +kernel))⟩, (ya_in 1226 (by decide +kernel) (by decide +kernel))⟩
abbrev Y_J0_coder_7d493 : ya_Y := (cJ0_coder_7d493, RJ0, 1, (some (.byte)), "coder", { frames := 0, cells := 0, slots := 0, locals := 0 })
theorem m_J0_coder_7d493 : ya_mV yJ0_coder_7d493 Y_J0_coder_7d493 0 := ⟨⟨⟨by decide +kernel, by decide +kernel, by decide +kernel⟩, (ya_in 116 (by decide +kernel) (by decide +kernel)), (ya_in 596 (by decide +kernel) (by decide +kernel))⟩, (ya_in 594 (by decide +kernel) (by decide +kernel)), (ya_in 595 (by decide +kernel) (by decide +kernel))⟩
abbrev Y_J0_isLatin1_aae02 : ya_Y := (cJ0_isLatin1_aae02, RJ0, 1, (some (.boolean)), "isLatin1", { frames := 0, cells := 0, slots := 0, locals := 0 })
theorem m_J0_isLatin1_aae02 : ya_mV yJ0_isLatin1_aae02 Y_J0_isLatin1_aae02 0 := ⟨⟨⟨by decide +kernel, by decide +kernel, by decide +kernel⟩, (ya_in 116 (by decide +kernel) (by decide +kernel)), (ya_in 586 (by decide +kernel) (by decide +kernel))⟩, (ya_in 584 (by decide +kernel) (by decide +kernel)), (ya_in 585 (by decide +kernel) (by decide +kernel))⟩
abbrev Y_J0_length_8abf5 : ya_Y := (cJ0_length_8abf5, RJ0, 1, (some (.int)), "length", { frames := 1, cells := 0, slots := 0, locals := 20 })
theorem m_J0_length_8abf5 : ya_mV yJ0_length_8abf5 Y_J0_length_8abf5 0 := ⟨⟨⟨by decide +kernel, by decide +kernel, by decide +kernel⟩, (ya_in 116 (by decide +kernel) (by decide +kernel)), (ya_in 592 (by decide +kernel) (by decide +kernel))⟩, (ya_in 590 (by decide +kernel) (by decide +kernel)), (ya_in 591 (by decide +kernel) (by decide +kernel))⟩
abbrev Y_J3_checkIndex_8e157 : ya_Y := (cJ3_checkIndex_8e157, RJ3, 3, (some (.int)), "checkIndex", { frames := 0, cells := 0, slots := 0, locals := 0 })
theorem m_J3_checkIndex_8e157 : ya_mS yJ3_checkIndex_8e157 Y_J3_checkIndex_8e157 3 := ⟨⟨⟨by decide +kernel, by decide +kernel, by decide +kernel⟩, (ya_in 119 (by decide +kernel) (by decide +kernel)), (ya_in 676 (by decide +kernel) (by decide +kernel))⟩, (ya_in 675 (by decide +kernel) (by decide +kernel))⟩
abbrev Y_J0_checkIndex_df160 : ya_Y := (cJ0_checkIndex_df160, RJ0, 2, none, "checkIndex", { frames := 1, cells := 0, slots := 0, locals := 22 })
theorem m_J0_checkIndex_df160 : ya_mS yJ0_checkIndex_df160 Y_J0_checkIndex_df160 2 := ⟨⟨⟨by decide +kernel, by decide +kernel, by decide +kernel⟩, (ya_in 116 (by decide +kernel) (by decide +kernel)), (ya_in 673 (by decide +kernel) (by decide +kernel))⟩, (ya_in 672 (by decide +kernel) (by decide +kernel))⟩
abbrev Y_J1_charAt_3b067 : ya_Y := (cJ1_charAt_3b067, RJ1, 2, (some (.char)), "charAt", { frames := 2, cells := 0, slots := 0, locals := 43 })
theorem m_J1_charAt_3b067 : ya_mS yJ1_charAt_3b067 Y_J1_charAt_3b067 2 := ⟨⟨⟨by decide +kernel, by decide +kernel, by decide +kernel⟩, (ya_in 117 (by decide +kernel) (by decide +kernel)), (ya_in 670 (by decide +kernel) (by decide +kernel))⟩, (ya_in 669 (by decide +kernel) (by decide +kernel))⟩
abbrev Y_J0_charAt_5068e : ya_Y := (cJ0_charAt_5068e, RJ0, 2, (some (.char)), "charAt", { frames := 3, cells := 0, slots := 0, locals := 64 })
theorem m_J0_charAt_5068e : ya_mV yJ0_charAt_5068e Y_J0_charAt_5068e 1 := ⟨⟨⟨by decide +kernel, by decide +kernel, by decide +kernel⟩, (ya_in 116 (by decide +kernel) (by decide +kernel)), (ya_in 667 (by decide +kernel) (by decide +kernel))⟩, (ya_in 665 (by decide +kernel) (by decide +kernel)), (ya_in 666 (by decide +kernel) (by decide +kernel))⟩
abbrev Y_J1_canEncode_9a6ad : ya_Y := (cJ1_canEncode_9a6ad, RJ1, 1, (some (.boolean)), "canEncode", { frames := 0, cells := 0, slots := 0, locals := 0 })
theorem m_J1_canEncode_9a6ad : ya_mS yJ1_canEncode_9a6ad Y_J1_canEncode_9a6ad 1 := ⟨⟨⟨by decide +kernel, by decide +kernel, by decide +kernel⟩, (ya_in 117 (by decide +kernel) (by decide +kernel)), (ya_in 602 (by decide +kernel) (by decide +kernel))⟩, (ya_in 601 (by decide +kernel) (by decide +kernel))⟩
abbrev Y_J1_indexOfChar_4cfef : ya_Y := (cJ1_indexOfChar_4cfef, RJ1, 6, (some (.int)), "indexOfChar", { frames := 0, cells := 0, slots := 0, locals := 0 })
theorem m_J1_indexOfChar_4cfef : ya_mS yJ1_indexOfChar_4cfef Y_J1_indexOfChar_4cfef 4 := ⟨⟨⟨by decide +kernel, by decide +kernel, by decide +kernel⟩, (ya_in 117 (by decide +kernel) (by decide +kernel)), (ya_in 609 (by decide +kernel) (by decide +kernel))⟩, (ya_in 608 (by decide +kernel) (by decide +kernel))⟩
abbrev Y_J1_indexOf_4cfef : ya_Y := (cJ1_indexOf_4cfef, RJ1, 4, (some (.int)), "indexOf", { frames := 1, cells := 0, slots := 0, locals := 25 })
theorem m_J1_indexOf_4cfef : ya_mS yJ1_indexOf_4cfef Y_J1_indexOf_4cfef 4 := ⟨⟨⟨by decide +kernel, by decide +kernel, by decide +kernel⟩, (ya_in 117 (by decide +kernel) (by decide +kernel)), (ya_in 599 (by decide +kernel) (by decide +kernel))⟩, (ya_in 598 (by decide +kernel) (by decide +kernel))⟩
abbrev Y_J0_indexOf_7cf53 : ya_Y := (cJ0_indexOf_7cf53, RJ0, 3, (some (.int)), "indexOf", { frames := 2, cells := 0, slots := 0, locals := 48 })
theorem m_J0_indexOf_7cf53 : ya_mV yJ0_indexOf_7cf53 Y_J0_indexOf_7cf53 2 := ⟨⟨⟨by decide +kernel, by decide +kernel, by decide +kernel⟩, (ya_in 116 (by decide +kernel) (by decide +kernel)), (ya_in 582 (by decide +kernel) (by decide +kernel))⟩, (ya_in 580 (by decide +kernel) (by decide +kernel)), (ya_in 581 (by decide +kernel) (by decide +kernel))⟩
abbrev Y_J0_indexOf_0f7a4 : ya_Y := (cJ0_indexOf_0f7a4, RJ0, 2, (some (.int)), "indexOf", { frames := 3, cells := 0, slots := 0, locals := 70 })
theorem m_J0_indexOf_0f7a4 : ya_mV yJ0_indexOf_0f7a4 Y_J0_indexOf_0f7a4 1 := ⟨⟨⟨by decide +kernel, by decide +kernel, by decide +kernel⟩, (ya_in 116 (by decide +kernel) (by decide +kernel)), (ya_in 578 (by decide +kernel) (by decide +kernel))⟩, (ya_in 576 (by decide +kernel) (by decide +kernel)), (ya_in 577 (by decide +kernel) (by decide +kernel))⟩
theorem ml_J0_335 : Cond.methodLink RJ0 335 yJ0_coder_7d493 ∈ lw_g := ya_in 593 (by decide +kernel) (by decide +kernel)
theorem ml_J0_492 : Cond.methodLink RJ0 492 yJ0_isLatin1_aae02 ∈ lw_g := ya_in 583 (by decide +kernel) (by decide +kernel)
theorem ml_J0_495 : Cond.methodLink RJ0 495 yJ1_charAt_3b067 ∈ lw_g := ya_in 668 (by decide +kernel) (by decide +kernel)
theorem ml_J1_9 : Cond.methodLink RJ1 9 yJ0_checkIndex_df160 ∈ lw_g := ya_in 671 (by decide +kernel) (by decide +kernel)
theorem ml_J0_1059 : Cond.methodLink RJ0 1059 yJ3_checkIndex_8e157 ∈ lw_g := ya_in 674 (by decide +kernel) (by decide +kernel)
theorem ml_J0_633 : Cond.methodLink RJ0 633 yJ0_indexOf_7cf53 ∈ lw_g := ya_in 579 (by decide +kernel) (by decide +kernel)
theorem ml_J0_505 : Cond.methodLink RJ0 505 yJ0_length_8abf5 ∈ lw_g := ya_in 589 (by decide +kernel) (by decide +kernel)
theorem ml_J0_637 : Cond.methodLink RJ0 637 yJ1_indexOf_4cfef ∈ lw_g := ya_in 597 (by decide +kernel) (by decide +kernel)
theorem ml_J1_88 : Cond.methodLink RJ1 88 yJ1_canEncode_9a6ad ∈ lw_g := ya_in 600 (by decide +kernel) (by decide +kernel)
theorem ml_J1_95 : Cond.methodLink RJ1 95 yJ1_indexOfChar_4cfef ∈ lw_g := ya_in 607 (by decide +kernel) (by decide +kernel)
theorem ml_J1_92 : Cond.methodLink RJ1 92 Lib.Math.max.name ∈ lw_g := ya_in 603 (by decide +kernel) (by decide +kernel)
theorem ml_J1_38 : Cond.methodLink RJ1 38 Lib.Math.min.name ∈ lw_g := ya_in 606 (by decide +kernel) (by decide +kernel)
theorem jf_v : Cond.fieldLink RJ0 9 "java/lang/String" "value" "[B" ∈ lw_g := ya_in 1862 (by decide +kernel) (by decide +kernel)
theorem jf_c : Cond.fieldLink RJ0 15 "java/lang/String" "coder" "B" ∈ lw_g := ya_in 1861 (by decide +kernel) (by decide +kernel)
theorem jf_s : Cond.fieldLink RJ0 38 "java/lang/String" "COMPACT_STRINGS" "Z" ∈ lw_g := ya_in 587 (by decide +kernel) (by decide +kernel)
theorem jf_o : Cond.fieldLink RJ0 1053 "jdk/internal/util/Preconditions" "SIOOBE_FORMATTER" "Ljava/util/function/BiFunction;" ∈ lw_g := ya_in 628 (by decide +kernel) (by decide +kernel)
def ya_fI (d : ya_D) (a n : Nat) (v : Int32) : Option ya_D := some (fun a' k => if a' = a ∧ k < n then v else d.1 a' k, d.2)
def ya_fL (d : ya_D) (a n : Nat) (v : Int64) : Option ya_D := some (d.1, fun a' k => if a' = a ∧ k < n then v else d.2 a' k)
def ya_sl (s : Nat) : Option Int32 := if s < ya_kN then some (Int32.ofNat (ya_klen.getD s 0)) else none
def ya_sc (s : Nat) (i : Int32) : Option Int32 := if s < ya_kN ∧ ¬ (i < 0 ∨ ya_klen.getD s 0 ≤ i.toNatClampNeg) then some ((ya_kbyt.getD s []).getD i.toNatClampNeg 0) else none
def ya_ixF (c : Int32) : List Int32 → Nat → Int32
  | [], _ => -1
  | b :: l, k => if b = c then nI k else ya_ixF c l (k + 1)
def ya_sx (s : Nat) (c : Int32) : Option Int32 := if s < ya_kN ∧ ¬ (c < 0 ∨ (128 : Int32) ≤ c) then some (ya_ixF c (ya_kbyt.getD s []) 0) else none
/-- each text: its length, its signs -/
theorem ya_kall : ∀ i, i < ya_kN → (ya_klen.getD i 0 = (ya_kbyt.getD i []).length ∧ (ya_kbyt.getD i []).length < 100 ∧ ∀ b ∈ ya_kbyt.getD i [], b.toInt8.toInt32 = b ∧ (b &&& 255) = b ∧ (b.toUInt32 % 65536).toInt32 = b ∧ narrow .char (.int b) = .int b) := by decide +kernel
section
variable {X : ya_X} {Y : ya_Y} {Γ : ya_Γ} {pc : Nat} {L : List (Nat × Value)} {S : List Value} {G : ya_G} {d : ya_D} {k n : Nat}
theorem ya_kcs {i : Nat} (hlk : Cond.fieldLink Y.2.1 i "java/lang/String" "COMPACT_STRINGS" "Z" ∈ lw_g) (hd : decode Y.1 pc = .ok (.getstatic i, 3)) (kk : ya_E X Y Γ (pc + 3) L (.int 1 :: S) G d k n) : ya_E X Y Γ pc L S G d k n := by
  intro p e s m args below meth c H locs ls hC hH hl
  exact va_gets hC.1 hC.2.1 hC.2.2.2.2.2.2.2.2.2.1.2.2.2.2.2.1 hH.2.1 hC.2.2.2.1 (hC.2.2.2.2.1 _ hlk) (fun _ h => h) hd (kk p e s m args below meth c H locs ls hC hH hl)
theorem ya_ksio {i : Nat} (hlk : Cond.fieldLink Y.2.1 i "jdk/internal/util/Preconditions" "SIOOBE_FORMATTER" "Ljava/util/function/BiFunction;" ∈ lw_g) (hd : decode Y.1 pc = .ok (.getstatic i, 3)) (kk : ∀ v : Value, v.category = 1 → ya_E X Y Γ (pc + 3) L (v :: S) G d k n) : ya_E X Y Γ pc L S G d k n := by
  intro p e s m args below meth c H locs ls hC hH hl
  rcases hC.2.2.2.2.2.2.2.2.2.1.2.2.2.2.2.2.2.2 with h | ⟨t, h⟩
  · exact va_gets hC.1 hC.2.1 h hH.2.1 hC.2.2.2.1 (hC.2.2.2.2.1 _ hlk) (fun _ h => h) hd (kk _ rfl p e s m args below meth c H locs ls hC hH hl)
  · exact va_gets hC.1 hC.2.1 h hH.2.1 hC.2.2.2.1 (hC.2.2.2.2.1 _ hlk) (fun _ h => h) hd (kk _ rfl p e s m args below meth c H locs ls hC hH hl)
theorem ya_kgetC {i s0 : Nat} (hs : s0 < ya_kN) (hlk : Cond.fieldLink Y.2.1 i "java/lang/String" "coder" "B" ∈ lw_g) (hd : decode Y.1 pc = .ok (.getfield i, 3)) (kk : ya_E X Y Γ (pc + 3) L (.int 0 :: S) G d k n) : ya_E X Y Γ pc L (.ref (X.2.2.2.2.2.2.1 s0) :: S) G d k n := by
  intro p e s m args below meth c H locs ls hC hH hl
  exact vk_getf hC.1 hC.2.1 (hC.2.2.2.2.2.2.2.2.2.1.2.1.1 s0 hs).2.1 hH.2.1 hC.2.2.2.1 (hC.2.2.2.2.1 _ hlk) (fun _ h => h) hd (kk p e s m args below meth c H locs ls hC hH hl)
theorem ya_kgetV {i s0 : Nat} (hs : s0 < ya_kN) (hlk : Cond.fieldLink Y.2.1 i "java/lang/String" "value" "[B" ∈ lw_g) (hd : decode Y.1 pc = .ok (.getfield i, 3)) (kk : ya_E X Y Γ (pc + 3) L (.ref (X.2.2.2.2.2.2.2.1 s0) :: S) G d k n) : ya_E X Y Γ pc L (.ref (X.2.2.2.2.2.2.1 s0) :: S) G d k n := by
  intro p e s m args below meth c H locs ls hC hH hl
  exact vk_getf hC.1 hC.2.1 (hC.2.2.2.2.2.2.2.2.2.1.2.1.1 s0 hs).2.2.1 hH.2.1 hC.2.2.2.1 (hC.2.2.2.2.1 _ hlk) (fun _ h => h) hd (kk p e s m args below meth c H locs ls hC hH hl)
theorem ya_kalen {s0 : Nat} (hs : s0 < ya_kN) (hd : decode Y.1 pc = .ok (.arraylength, 1)) (kk : ya_E X Y Γ (pc + 1) L (.int (Int32.ofNat (ya_klen.getD s0 0)) :: S) G d k n) : ya_E X Y Γ pc L (.ref (X.2.2.2.2.2.2.2.1 s0) :: S) G d k n := by
  intro p e s m args below meth c H locs ls hC hH hl
  exact va_tlen hC.1 hC.2.1 (hC.2.2.2.2.2.2.2.2.2.1.2.1.1 s0 hs).2.2.2 hH.2.1 rfl hd (kk p e s m args below meth c H locs ls hC hH hl)
theorem ya_kbald {s0 : Nat} {i : Int32} (hs : s0 < ya_kN) (hin : vp_in i (ya_klen.getD s0 0)) (hd : decode Y.1 pc = .ok (.baload, 1)) (kk : ya_E X Y Γ (pc + 1) L (.int ((ya_kbyt.getD s0 []).getD i.toNatClampNeg 0) :: S) G d k n) : ya_E X Y Γ pc L (.int i :: .ref (X.2.2.2.2.2.2.2.1 s0) :: S) G d k n := by
  intro p e s m args below meth c H locs ls hC hH hl
  exact va_tb hC.1 hC.2.1 (hC.2.2.2.2.2.2.2.2.2.1.2.1.1 s0 hs).2.2.2 hH.2.1 hin rfl hd (kk p e s m args below meth c H locs ls hC hH hl)
/-- a call of a method of a text constant -/
theorem ya_callK {y : MethodName} {Yc : ya_Y} {s0 i np : Nat} {As S0 : List Value} {v : Int32} (hs : s0 < ya_kN) (hct : ya_Ct X y Yc (.ref (X.2.2.2.2.2.2.1 s0) :: As) G d (some (.int v), G, d)) (hy : y.cls = "java/lang/String") (hm : ya_mV y Yc np) (hz : ya_z0 Yc) (hlk : Cond.methodLink Y.2.1 i y ∈ lw_g) (hn : As.length = np) (hfit : ya_fit Y Yc) (hcat : (S.map fun v => v.category).sum ≤ 8)
    (hkn : k ≤ Y.2.2.2.2.2.cells ∧ n ≤ Y.2.2.2.2.2.slots) (hd : decode Y.1 pc = .ok (.invokevirtual i, 3)) (hst : S0 = As.reverse ++ .ref (X.2.2.2.2.2.2.1 s0) :: S)
    (kk : ya_E X Y Γ (pc + 3) L (.int v :: S) G d k n) : ya_E X Y Γ pc L S0 G d k n := by
  intro p e s m args below meth c H locs ls hC hH hl
  have kk' : ya_E X Y Γ (pc + 3) L ((some (Value.int v), G, d).1.toList ++ S) G d (k + Yc.2.2.2.2.2.cells) (n + Yc.2.2.2.2.2.slots) := by
    rw [hz.1, hz.2]
    exact kk
  refine ya_back (rc := (some (.int v), G, d)) hC hH hl (by rw [hz.1]; rfl) (ms := Yc.2.2.2.2.2.slots) (a := (Value.ref (X.2.2.2.2.2.2.1 s0) :: As).toArray) (fun T hT Xs => ?_) kk'
  have hzz := ya_size hH hC.2.2.2.2.2.2.2.2.2.2 hT Xs.heapSize
  have hts := hC.2.2.2.2.1
  have hpre := ya_pre (As := .ref (X.2.2.2.2.2.2.1 s0) :: As) hC hH hzz
  exact va_runV ⟨hC.1, hC.2.1, hC.2.2.1, hC.2.2.2.1, hts⟩ hct
    ⟨callB_of np hts (ya_goodIn hm.1.2.2) rfl rfl rfl (hts _ hm.1.2.1) (hts _ hlk) hm.1.1 hfit, hts _ hm.2.1, hts _ hm.2.2⟩
    ⟨hpre.1, hy ▸ vk_recv hC.2.2.2.2.2.2.2.2.2.1.2.1 hs hH.2.1, hpre.2⟩ rfl hn (hl.1) (by rw [hst]) (by simpa [JFrame.monitorRoom] using hcat) hd (by rw [hz.1, hz.2]; exact hkn)
end
section
variable {X : ya_X} {G : ya_G} {d : ya_D}
theorem c_J0_coder {s0 : Nat} (hs : s0 < ya_kN) : ya_Ct X yJ0_coder_7d493 Y_J0_coder_7d493 [.ref (X.2.2.2.2.2.2.1 s0)] G d (some (.int 0), G, d) := by
  refine ya_ct (by decide +kernel) rfl rfl (Nat.le_of_ble_eq_true rfl) ?_
  show ya_E X Y_J0_coder_7d493 (ya_M X (some (.int 0), G, d) 0 0) 0 [(0, .ref (X.2.2.2.2.2.2.1 s0))] [] G d 0 0
  refine ya_kcs jf_s dJ0_coder_7d493_0 ?_
  refine ya_ifeq 13 (by decide) dJ0_coder_7d493_3 (fun c => absurd c (by decide)) (fun _ => ?_)
  refine ya_aload_n 0 rfl dJ0_coder_7d493_6 ?_
  refine ya_kgetC hs jf_c dJ0_coder_7d493_7 ?_
  refine ya_goto 14 (by decide) dJ0_coder_7d493_10 ?_
  exact ya_zret .byte rfl rfl rfl rfl (by decide) rfl (Nat.le_refl _) dJ0_coder_7d493_14
theorem c_J0_isLatin1 {s0 : Nat} (hs : s0 < ya_kN) : ya_Ct X yJ0_isLatin1_aae02 Y_J0_isLatin1_aae02 [.ref (X.2.2.2.2.2.2.1 s0)] G d (some (.int 1), G, d) := by
  refine ya_ct (by decide +kernel) rfl rfl (Nat.le_of_ble_eq_true rfl) ?_
  show ya_E X Y_J0_isLatin1_aae02 (ya_M X (some (.int 1), G, d) 0 0) 0 [(0, .ref (X.2.2.2.2.2.2.1 s0))] [] G d 0 0
  refine ya_kcs jf_s dJ0_isLatin1_aae02_0 ?_
  refine ya_ifeq 17 (by decide) dJ0_isLatin1_aae02_3 (fun c => absurd c (by decide)) (fun _ => ?_)
  refine ya_aload_n 0 rfl dJ0_isLatin1_aae02_6 ?_
  refine ya_kgetC hs jf_c dJ0_isLatin1_aae02_7 ?_
  refine ya_ifne 17 (by decide) dJ0_isLatin1_aae02_10 (fun c => absurd rfl c) (fun _ => ?_)
  refine ya_iconst 1 (by decide) dJ0_isLatin1_aae02_13 ?_
  refine ya_goto 18 (by decide) dJ0_isLatin1_aae02_14 ?_
  exact ya_zret .boolean rfl rfl rfl rfl (by decide) rfl (Nat.le_refl _) dJ0_isLatin1_aae02_18
theorem ya_shr0 : ∀ n, n < 100 → (Int32.ofNat n) >>> ((0 : Int32) &&& 31) = Int32.ofNat n := by decide +kernel
theorem c_J0_length {s0 : Nat} (hs : s0 < ya_kN) : ya_Ct X yJ0_length_8abf5 Y_J0_length_8abf5 [.ref (X.2.2.2.2.2.2.1 s0)] G d (some (.int (Int32.ofNat (ya_klen.getD s0 0))), G, d) := by
  obtain ⟨hl, hL, -⟩ := ya_kall s0 hs
  refine ya_ct (by decide +kernel) rfl rfl (Nat.le_of_ble_eq_true rfl) ?_
  show ya_E X Y_J0_length_8abf5 (ya_M X (some (.int (Int32.ofNat (ya_klen.getD s0 0))), G, d) 0 0) 0 [(0, .ref (X.2.2.2.2.2.2.1 s0))] [] G d 0 0
  refine ya_aload_n 0 rfl dJ0_length_8abf5_0 ?_
  refine ya_kgetV hs jf_v dJ0_length_8abf5_1 ?_
  refine ya_kalen hs dJ0_length_8abf5_4 ?_
  refine ya_aload_n 0 rfl dJ0_length_8abf5_5 ?_
  refine ya_callK (S := [.int (Int32.ofNat (ya_klen.getD s0 0))]) hs (c_J0_coder hs) rfl m_J0_coder_7d493 ⟨rfl, rfl⟩ ml_J0_335 rfl ⟨Nat.le_of_ble_eq_true rfl, Nat.le_of_ble_eq_true rfl⟩ (Nat.le_of_ble_eq_true rfl) ⟨Nat.le_refl _, Nat.le_refl _⟩ dJ0_length_8abf5_6 rfl ?_
  refine ya_ishr dJ0_length_8abf5_9 ?_
  rw [ya_shr0 _ (by omega)]
  exact ya_iret rfl rfl rfl rfl rfl (Nat.le_refl _) dJ0_length_8abf5_10
theorem c_J3_checkIndex {i z : Int32} {f : Value} (h0 : ¬ i < 0) (h1 : i < z) (hf : f.category = 1) : ya_Ct X yJ3_checkIndex_8e157 Y_J3_checkIndex_8e157 [.int i, .int z, f] G d (some (.int i), G, d) := by
  have hsl : (lg_sl [Value.int i, Value.int z, f]).length ≤ 3 := by
    cases f <;> first | exact Nat.le_of_ble_eq_true rfl | exact absurd hf (by simp [Value.category])
  refine ya_ct (by decide +kernel) rfl rfl hsl ?_
  have hla : lv_args 0 [Value.int i, Value.int z, f] = [(0, .int i), (1, .int z), (2, f)] := by
    cases f <;> first | rfl | exact absurd hf (by simp [Value.category])
  rw [hla]
  refine ya_iload_n 0 rfl dJ3_checkIndex_8e157_0 ?_
  refine ya_iflt 9 (by decide) dJ3_checkIndex_8e157_1 (fun c => absurd c h0) (fun _ => ?_)
  refine ya_iload_n 0 rfl dJ3_checkIndex_8e157_4 ?_
  refine ya_iload_n 1 rfl dJ3_checkIndex_8e157_5 ?_
  refine ya_icmp_lt 16 (by decide) dJ3_checkIndex_8e157_6 (fun _ => ?_) (fun c => absurd h1 c)
  refine ya_iload_n 0 rfl dJ3_checkIndex_8e157_16 ?_
  exact ya_iret rfl rfl rfl rfl rfl (Nat.le_refl _) dJ3_checkIndex_8e157_17
theorem c_J0_checkIndex {i z : Int32} (h0 : ¬ i < 0) (h1 : i < z) : ya_Ct X yJ0_checkIndex_df160 Y_J0_checkIndex_df160 [.int i, .int z] G d (none, G, d) := by
  refine ya_ct (by decide +kernel) rfl rfl (Nat.le_of_ble_eq_true rfl) ?_
  show ya_E X Y_J0_checkIndex_df160 (ya_M X (none, G, d) 0 0) 0 [(0, .int i), (1, .int z)] [] G d 0 0
  refine ya_iload_n 0 rfl dJ0_checkIndex_df160_0 ?_
  refine ya_iload_n 1 rfl dJ0_checkIndex_df160_1 ?_
  refine ya_ksio jf_o dJ0_checkIndex_df160_2 (fun f hf => ?_)
  refine ya_callSi (S := []) (As := [.int i, .int z, f]) (c_J3_checkIndex h0 h1 hf) m_J3_checkIndex_8e157 ⟨rfl, rfl⟩ ml_J0_1059 rfl ⟨Nat.le_of_ble_eq_true rfl, Nat.le_of_ble_eq_true rfl⟩ (Nat.le_of_ble_eq_true rfl) ⟨Nat.le_refl _, Nat.le_refl _⟩ dJ0_checkIndex_df160_5 rfl ?_
  refine ya_pop rfl dJ0_checkIndex_df160_8 ?_
  exact ya_vret rfl rfl rfl rfl rfl (Nat.le_refl _) dJ0_checkIndex_df160_9
theorem ya_inlt {i : Int32} {n : Nat} (h : ¬ (i < 0 ∨ n ≤ i.toNatClampNeg)) (hn : n < 2 ^ 31) : ¬ i < 0 ∧ i < Int32.ofNat n := by
  refine ⟨fun q => h (Or.inl q), ?_⟩
  have h1 : i.toNatClampNeg < n := Nat.not_le.mp fun q => h (Or.inr q)
  obtain ⟨j, hj, rfl⟩ := nI_of (fun q => h (Or.inl q))
  rw [nI_clamp hj] at h1
  exact nI_lt h1 hn
theorem ya_getD_mem {l : List Int32} {k : Nat} (h : k < l.length) : l.getD k 0 ∈ l := by
  rw [List.getD_eq_getElem?_getD, List.getElem?_eq_getElem h]
  exact List.getElem_mem h
theorem c_J1_charAt {s0 : Nat} {i : Int32} (hs : s0 < ya_kN) (hi : ¬ (i < 0 ∨ ya_klen.getD s0 0 ≤ i.toNatClampNeg)) : ya_Ct X yJ1_charAt_3b067 Y_J1_charAt_3b067 [.ref (X.2.2.2.2.2.2.2.1 s0), .int i] G d (some (.int ((ya_kbyt.getD s0 []).getD i.toNatClampNeg 0)), G, d) := by
  obtain ⟨hl, hL, hb⟩ := ya_kall s0 hs
  obtain ⟨h0, h1⟩ := ya_inlt hi (by omega)
  have hlt : i.toNatClampNeg < (ya_kbyt.getD s0 []).length := by
    have := Nat.not_le.mp (fun q => hi (Or.inr q))
    omega
  obtain ⟨b1, b2, b3, b4⟩ := hb ((ya_kbyt.getD s0 []).getD i.toNatClampNeg 0) (ya_getD_mem hlt)
  refine ya_ct (by decide +kernel) rfl rfl (Nat.le_of_ble_eq_true rfl) ?_
  show ya_E X Y_J1_charAt_3b067 (ya_M X (some (.int ((ya_kbyt.getD s0 []).getD i.toNatClampNeg 0)), G, d) 0 0) 0 [(0, .ref (X.2.2.2.2.2.2.2.1 s0)), (1, .int i)] [] G d 0 0
  refine ya_iload_n 1 rfl dJ1_charAt_3b067_0 ?_
  refine ya_aload_n 0 rfl dJ1_charAt_3b067_1 ?_
  refine ya_kalen hs dJ1_charAt_3b067_2 ?_
  refine ya_callSv (S := []) (c_J0_checkIndex h0 h1) m_J0_checkIndex_df160 ⟨rfl, rfl⟩ ml_J1_9 rfl ⟨Nat.le_of_ble_eq_true rfl, Nat.le_of_ble_eq_true rfl⟩ (Nat.le_of_ble_eq_true rfl) ⟨Nat.le_refl _, Nat.le_refl _⟩ dJ1_charAt_3b067_3 rfl ?_
  refine ya_aload_n 0 rfl dJ1_charAt_3b067_6 ?_
  refine ya_iload_n 1 rfl dJ1_charAt_3b067_7 ?_
  refine ya_kbald hs hi dJ1_charAt_3b067_8 ?_
  refine ya_sipush 255 (by decide) dJ1_charAt_3b067_9 ?_
  refine ya_iand dJ1_charAt_3b067_12 ?_
  rw [b2]
  refine ya_i2c dJ1_charAt_3b067_13 ?_
  rw [b3]
  exact ya_zret .char rfl rfl rfl rfl b4 rfl (Nat.le_refl _) dJ1_charAt_3b067_14
theorem c_J0_charAt {s0 : Nat} {i : Int32} (hs : s0 < ya_kN) (hi : ¬ (i < 0 ∨ ya_klen.getD s0 0 ≤ i.toNatClampNeg)) : ya_Ct X yJ0_charAt_5068e Y_J0_charAt_5068e [.ref (X.2.2.2.2.2.2.1 s0), .int i] G d (some (.int ((ya_kbyt.getD s0 []).getD i.toNatClampNeg 0)), G, d) := by
  obtain ⟨hl, hL, hb⟩ := ya_kall s0 hs
  have hlt : i.toNatClampNeg < (ya_kbyt.getD s0 []).length := by
    have := Nat.not_le.mp (fun q => hi (Or.inr q))
    omega
  obtain ⟨b1, b2, b3, b4⟩ := hb ((ya_kbyt.getD s0 []).getD i.toNatClampNeg 0) (ya_getD_mem hlt)
  refine ya_ct (by decide +kernel) rfl rfl (Nat.le_of_ble_eq_true rfl) ?_
  show ya_E X Y_J0_charAt_5068e (ya_M X (some (.int ((ya_kbyt.getD s0 []).getD i.toNatClampNeg 0)), G, d) 0 0) 0 [(0, .ref (X.2.2.2.2.2.2.1 s0)), (1, .int i)] [] G d 0 0
  refine ya_aload_n 0 rfl dJ0_charAt_5068e_0 ?_
  refine ya_callK (S := []) hs (c_J0_isLatin1 hs) rfl m_J0_isLatin1_aae02 ⟨rfl, rfl⟩ ml_J0_492 rfl ⟨Nat.le_of_ble_eq_true rfl, Nat.le_of_ble_eq_true rfl⟩ (Nat.le_of_ble_eq_true rfl) ⟨Nat.le_refl _, Nat.le_refl _⟩ dJ0_charAt_5068e_1 rfl ?_
  refine ya_ifeq 16 (by decide) dJ0_charAt_5068e_4 (fun c => absurd c (by decide)) (fun _ => ?_)
  refine ya_aload_n 0 rfl dJ0_charAt_5068e_7 ?_
  refine ya_kgetV hs jf_v dJ0_charAt_5068e_8 ?_
  refine ya_iload_n 1 rfl dJ0_charAt_5068e_11 ?_
  refine ya_callSi (S := []) (c_J1_charAt hs hi) m_J1_charAt_3b067 ⟨rfl, rfl⟩ ml_J0_495 rfl ⟨Nat.le_of_ble_eq_true rfl, Nat.le_of_ble_eq_true rfl⟩ (Nat.le_of_ble_eq_true rfl) ⟨Nat.le_refl _, Nat.le_refl _⟩ dJ0_charAt_5068e_12 rfl ?_
  exact ya_zret .char rfl rfl rfl rfl b4 rfl (Nat.le_refl _) dJ0_charAt_5068e_15
theorem c_J1_canEncode {c : Int32} (h0 : ¬ c < 0) (h1 : c ≤ 255) : ya_Ct X yJ1_canEncode_9a6ad Y_J1_canEncode_9a6ad [.int c] G d (some (.int 1), G, d) := by
  refine ya_ct (by decide +kernel) rfl rfl (Nat.le_of_ble_eq_true rfl) ?_
  show ya_E X Y_J1_canEncode_9a6ad (ya_M X (some (.int 1), G, d) 0 0) 0 [(0, .int c)] [] G d 0 0
  refine ya_iload_n 0 rfl dJ1_canEncode_9a6ad_0 ?_
  refine ya_iflt 15 (by decide) dJ1_canEncode_9a6ad_1 (fun q => absurd q h0) (fun _ => ?_)
  refine ya_iload_n 0 rfl dJ1_canEncode_9a6ad_4 ?_
  refine ya_sipush 255 (by decide) dJ1_canEncode_9a6ad_5 ?_
  refine ya_icmp_gt 15 (by decide) dJ1_canEncode_9a6ad_8 (fun q => absurd h1 (Int32.not_le.mpr q)) (fun _ => ?_)
  refine ya_iconst 1 (by decide) dJ1_canEncode_9a6ad_11 ?_
  refine ya_goto 16 (by decide) dJ1_canEncode_9a6ad_12 ?_
  exact ya_zret .boolean rfl rfl rfl rfl (by decide) rfl (Nat.le_refl _) dJ1_canEncode_9a6ad_16
theorem ya_drop1 {l : List Int32} {k : Nat} {b : Int32} {r : List Int32} (e : l.drop k = b :: r) : k < l.length ∧ l.getD k 0 = b ∧ l.drop (k + 1) = r ∧ b ∈ l := by
  have h1 : k < l.length := by
    by_cases h : k < l.length
    · exact h
    · rw [List.drop_eq_nil_iff.mpr (by omega)] at e; cases e
  rw [List.drop_eq_getElem_cons h1] at e
  injection e with e1 e2
  refine ⟨h1, ?_, e2, ?_⟩
  · rw [List.getD_eq_getElem?_getD, List.getElem?_eq_getElem h1]; exact e1
  · rw [← e1]; exact List.getElem_mem h1
theorem ya_c128 : ∀ n : Nat, n < 128 → (Int32.ofNat n).toInt8.toInt32 = Int32.ofNat n := by decide +kernel
theorem c_J1_indexOfChar {s0 : Nat} {c : Int32} (hs : s0 < ya_kN) (hc : c.toInt8.toInt32 = c) : ya_Ct X yJ1_indexOfChar_4cfef Y_J1_indexOfChar_4cfef [.ref (X.2.2.2.2.2.2.2.1 s0), .int c, .int 0, .int (Int32.ofNat (ya_klen.getD s0 0))] G d (some (.int (ya_ixF c (ya_kbyt.getD s0 []) 0)), G, d) := by
  obtain ⟨hl, hL, hb⟩ := ya_kall s0 hs
  refine ya_ct (by decide +kernel) rfl rfl (Nat.le_of_ble_eq_true rfl) ?_
  show ya_E X Y_J1_indexOfChar_4cfef (ya_M X (some (.int (ya_ixF c (ya_kbyt.getD s0 []) 0)), G, d) 0 0) 0 [(0, .ref (X.2.2.2.2.2.2.2.1 s0)), (1, .int c), (2, .int 0), (3, .int (Int32.ofNat (ya_klen.getD s0 0)))] [] G d 0 0
  refine ya_iload_n 1 rfl dJ1_indexOfChar_4cfef_0 ?_
  refine ya_i2b dJ1_indexOfChar_4cfef_1 ?_
  rw [hc]
  refine ya_istore [(4, .int c), (0, .ref (X.2.2.2.2.2.2.2.1 s0)), (1, .int c), (2, .int 0), (3, .int (Int32.ofNat (ya_klen.getD s0 0)))] (by decide) rfl dJ1_indexOfChar_4cfef_2 ?_
  refine ya_iload_n 3 rfl dJ1_indexOfChar_4cfef_4 ?_
  refine ya_istore [(5, .int 0), (4, .int c), (0, .ref (X.2.2.2.2.2.2.2.1 s0)), (1, .int c), (2, .int 0), (3, .int (Int32.ofNat (ya_klen.getD s0 0)))] (by decide) rfl dJ1_indexOfChar_4cfef_5 ?_
  have loop : ∀ (l : List Int32) (j : Nat), j ≤ (ya_kbyt.getD s0 []).length → (ya_kbyt.getD s0 []).drop j = l → ya_E X Y_J1_indexOfChar_4cfef (ya_M X (some (.int (ya_ixF c l j)), G, d) 0 0) 7 [(0, .ref (X.2.2.2.2.2.2.2.1 s0)), (3, .int (Int32.ofNat (ya_klen.getD s0 0))), (4, .int c), (5, .int (nI j))] [] G d 0 0 := by
    intro l
    induction l with
    | nil =>
      intro j hj e
      have h1 := List.drop_eq_nil_iff.mp e
      refine ya_iload 3 rfl dJ1_indexOfChar_4cfef_7 ?_
      refine ya_iload_n 1 rfl dJ1_indexOfChar_4cfef_9 ?_
      refine ya_icmp_ge 31 (by decide) dJ1_indexOfChar_4cfef_10 (fun _ => ?_) (fun q => absurd (nI_le (by omega) (by omega)) q)
      refine ya_iconst (-1) (by decide) dJ1_indexOfChar_4cfef_31 ?_
      exact ya_iret rfl rfl rfl rfl rfl (Nat.le_refl _) dJ1_indexOfChar_4cfef_32
    | cons b r ih =>
      intro j hj e
      obtain ⟨h1, h2, h3, h4⟩ := ya_drop1 e
      refine ya_iload 3 rfl dJ1_indexOfChar_4cfef_7 ?_
      refine ya_iload_n 1 rfl dJ1_indexOfChar_4cfef_9 ?_
      refine ya_icmp_ge 31 (by decide) dJ1_indexOfChar_4cfef_10 (fun q => absurd q (nI_ge (by omega) (by omega))) (fun _ => ?_)
      refine ya_aload_n 0 rfl dJ1_indexOfChar_4cfef_13 ?_
      refine ya_iload 3 rfl dJ1_indexOfChar_4cfef_14 ?_
      refine ya_kbald hs (nI_in (by omega) (by omega)) dJ1_indexOfChar_4cfef_16 ?_
      rw [nI_clamp (by omega), h2]
      refine ya_iload 2 rfl dJ1_indexOfChar_4cfef_17 ?_
      rw [ya_ixF]
      refine ya_icmp_ne 25 (by decide) dJ1_indexOfChar_4cfef_19 (fun q => ?_) (fun q => ?_)
      · rw [if_neg q]
        refine ya_iinc (nI (j + 1)) (nI_succ j).symm 3 rfl [(5, .int (nI (j + 1))), (0, .ref (X.2.2.2.2.2.2.2.1 s0)), (3, .int (Int32.ofNat (ya_klen.getD s0 0))), (4, .int c)] (by decide) rfl dJ1_indexOfChar_4cfef_25 ?_
        refine ya_goto 7 (by decide) dJ1_indexOfChar_4cfef_28 ?_
        refine ya_sub [(0, .ref (X.2.2.2.2.2.2.2.1 s0)), (3, .int (Int32.ofNat (ya_klen.getD s0 0))), (4, .int c), (5, .int (nI (j + 1)))] [1, 2, 3, 0] rfl ?_
        exact ih (j + 1) (by omega) h3
      · rw [if_pos q]
        refine ya_iload 3 rfl dJ1_indexOfChar_4cfef_22 ?_
        exact ya_iret rfl rfl rfl rfl rfl (Nat.le_refl _) dJ1_indexOfChar_4cfef_24
  refine ya_sub [(0, .ref (X.2.2.2.2.2.2.2.1 s0)), (3, .int (Int32.ofNat (ya_klen.getD s0 0))), (4, .int c), (5, .int (nI 0))] [2, 5, 1, 0] rfl ?_
  exact loop _ 0 (Nat.zero_le _) rfl
theorem c_J1_indexOf {s0 : Nat} {c : Int32} (hs : s0 < ya_kN) (h0 : ¬ c < 0) (h1 : c ≤ 255) (hc : c.toInt8.toInt32 = c) (hp : 0 < ya_klen.getD s0 0) : ya_Ct X yJ1_indexOf_4cfef Y_J1_indexOf_4cfef [.ref (X.2.2.2.2.2.2.2.1 s0), .int c, .int 0, .int (Int32.ofNat (ya_klen.getD s0 0))] G d (some (.int (ya_ixF c (ya_kbyt.getD s0 []) 0)), G, d) := by
  obtain ⟨hl, hL, hb⟩ := ya_kall s0 hs
  refine ya_ct (by decide +kernel) rfl rfl (Nat.le_of_ble_eq_true rfl) ?_
  show ya_E X Y_J1_indexOf_4cfef (ya_M X (some (.int (ya_ixF c (ya_kbyt.getD s0 []) 0)), G, d) 0 0) 0 [(0, .ref (X.2.2.2.2.2.2.2.1 s0)), (1, .int c), (2, .int 0), (3, .int (Int32.ofNat (ya_klen.getD s0 0)))] [] G d 0 0
  refine ya_iload_n 1 rfl dJ1_indexOf_4cfef_0 ?_
  refine ya_callSi (S := []) (c_J1_canEncode h0 h1) m_J1_canEncode_9a6ad ⟨rfl, rfl⟩ ml_J1_88 rfl ⟨Nat.le_of_ble_eq_true rfl, Nat.le_of_ble_eq_true rfl⟩ (Nat.le_of_ble_eq_true rfl) ⟨Nat.le_refl _, Nat.le_refl _⟩ dJ1_indexOf_4cfef_1 rfl ?_
  refine ya_ifne 9 (by decide) dJ1_indexOf_4cfef_4 (fun _ => ?_) (fun q => absurd q (by decide))
  refine ya_iload_n 2 rfl dJ1_indexOf_4cfef_9 ?_
  refine ya_iconst 0 (by decide) dJ1_indexOf_4cfef_10 ?_
  refine ya_mmax ml_J1_92 wm_max1 wm_max2 wm_max3 (by decide) (Nat.le_of_ble_eq_true rfl) ⟨Nat.le_refl _, Nat.le_refl _⟩ dJ1_indexOf_4cfef_11 ?_
  rw [show ya_max 0 0 = 0 from rfl]
  refine ya_istore_n [(2, .int 0), (0, .ref (X.2.2.2.2.2.2.2.1 s0)), (1, .int c), (3, .int (Int32.ofNat (ya_klen.getD s0 0)))] (by decide) rfl dJ1_indexOf_4cfef_14 ?_
  refine ya_iload_n 3 rfl dJ1_indexOf_4cfef_15 ?_
  refine ya_aload_n 1 rfl dJ1_indexOf_4cfef_16 ?_
  refine ya_kalen hs dJ1_indexOf_4cfef_17 ?_
  refine ya_mmin ml_J1_38 wm_min1 wm_min2 wm_min3 (by decide) (Nat.le_of_ble_eq_true rfl) ⟨Nat.le_refl _, Nat.le_refl _⟩ dJ1_indexOf_4cfef_18 ?_
  rw [show ∀ z : Int32, ya_min z z = z from fun z => by unfold ya_min; split <;> rfl]
  refine ya_istore_n [(3, .int (Int32.ofNat (ya_klen.getD s0 0))), (2, .int 0), (0, .ref (X.2.2.2.2.2.2.2.1 s0)), (1, .int c)] (by decide) rfl dJ1_indexOf_4cfef_21 ?_
  refine ya_iload_n 1 rfl dJ1_indexOf_4cfef_22 ?_
  refine ya_iload_n 0 rfl dJ1_indexOf_4cfef_23 ?_
  refine ya_icmp_lt 29 (by decide) dJ1_indexOf_4cfef_24 (fun _ => ?_) (fun q => absurd (nI_lt hp (by omega) : nI 0 < nI (ya_klen.getD s0 0)) (by rw [nI_0]; exact q))
  refine ya_aload_n 2 rfl dJ1_indexOf_4cfef_29 ?_
  refine ya_iload_n 3 rfl dJ1_indexOf_4cfef_30 ?_
  refine ya_iload_n 1 rfl dJ1_indexOf_4cfef_31 ?_
  refine ya_iload_n 0 rfl dJ1_indexOf_4cfef_32 ?_
  refine ya_callSi (S := []) (c_J1_indexOfChar hs hc) m_J1_indexOfChar_4cfef ⟨rfl, rfl⟩ ml_J1_95 rfl ⟨Nat.le_of_ble_eq_true rfl, Nat.le_of_ble_eq_true rfl⟩ (Nat.le_of_ble_eq_true rfl) ⟨Nat.le_refl _, Nat.le_refl _⟩ dJ1_indexOf_4cfef_33 rfl ?_
  exact ya_iret rfl rfl rfl rfl rfl (Nat.le_refl _) dJ1_indexOf_4cfef_36
theorem c_J0_indexOf2 {s0 : Nat} {c : Int32} (hs : s0 < ya_kN) (h0 : ¬ c < 0) (h1 : c ≤ 255) (hc : c.toInt8.toInt32 = c) (hp : 0 < ya_klen.getD s0 0) : ya_Ct X yJ0_indexOf_7cf53 Y_J0_indexOf_7cf53 [.ref (X.2.2.2.2.2.2.1 s0), .int c, .int 0] G d (some (.int (ya_ixF c (ya_kbyt.getD s0 []) 0)), G, d) := by
  refine ya_ct (by decide +kernel) rfl rfl (Nat.le_of_ble_eq_true rfl) ?_
  show ya_E X Y_J0_indexOf_7cf53 (ya_M X (some (.int (ya_ixF c (ya_kbyt.getD s0 []) 0)), G, d) 0 0) 0 [(0, .ref (X.2.2.2.2.2.2.1 s0)), (1, .int c), (2, .int 0)] [] G d 0 0
  refine ya_aload_n 0 rfl dJ0_indexOf_7cf53_0 ?_
  refine ya_callK (S := []) hs (c_J0_isLatin1 hs) rfl m_J0_isLatin1_aae02 ⟨rfl, rfl⟩ ml_J0_492 rfl ⟨Nat.le_of_ble_eq_true rfl, Nat.le_of_ble_eq_true rfl⟩ (Nat.le_of_ble_eq_true rfl) ⟨Nat.le_refl _, Nat.le_refl _⟩ dJ0_indexOf_7cf53_1 rfl ?_
  refine ya_ifeq 23 (by decide) dJ0_indexOf_7cf53_4 (fun q => absurd q (by decide)) (fun _ => ?_)
  refine ya_aload_n 0 rfl dJ0_indexOf_7cf53_7 ?_
  refine ya_kgetV hs jf_v dJ0_indexOf_7cf53_8 ?_
  refine ya_iload_n 1 rfl dJ0_indexOf_7cf53_11 ?_
  refine ya_iload_n 2 rfl dJ0_indexOf_7cf53_12 ?_
  refine ya_aload_n 0 rfl dJ0_indexOf_7cf53_13 ?_
  refine ya_callK (S := [.int 0, .int c, .ref (X.2.2.2.2.2.2.2.1 s0)]) hs (c_J0_length hs) rfl m_J0_length_8abf5 ⟨rfl, rfl⟩ ml_J0_505 rfl ⟨Nat.le_of_ble_eq_true rfl, Nat.le_of_ble_eq_true rfl⟩ (Nat.le_of_ble_eq_true rfl) ⟨Nat.le_refl _, Nat.le_refl _⟩ dJ0_indexOf_7cf53_14 rfl ?_
  refine ya_callSi (S := []) (c_J1_indexOf hs h0 h1 hc hp) m_J1_indexOf_4cfef ⟨rfl, rfl⟩ ml_J0_637 rfl ⟨Nat.le_of_ble_eq_true rfl, Nat.le_of_ble_eq_true rfl⟩ (Nat.le_of_ble_eq_true rfl) ⟨Nat.le_refl _, Nat.le_refl _⟩ dJ0_indexOf_7cf53_17 rfl ?_
  refine ya_goto 36 (by decide) dJ0_indexOf_7cf53_20 ?_
  exact ya_iret rfl rfl rfl rfl rfl (Nat.le_refl _) dJ0_indexOf_7cf53_36
theorem c_J0_indexOf {s0 : Nat} {c : Int32} (hs : s0 < ya_kN) (h0 : ¬ c < 0) (h1 : c ≤ 255) (hc : c.toInt8.toInt32 = c) (hp : 0 < ya_klen.getD s0 0) : ya_Ct X yJ0_indexOf_0f7a4 Y_J0_indexOf_0f7a4 [.ref (X.2.2.2.2.2.2.1 s0), .int c] G d (some (.int (ya_ixF c (ya_kbyt.getD s0 []) 0)), G, d) := by
  refine ya_ct (by decide +kernel) rfl rfl (Nat.le_of_ble_eq_true rfl) ?_
  show ya_E X Y_J0_indexOf_0f7a4 (ya_M X (some (.int (ya_ixF c (ya_kbyt.getD s0 []) 0)), G, d) 0 0) 0 [(0, .ref (X.2.2.2.2.2.2.1 s0)), (1, .int c)] [] G d 0 0
  refine ya_aload_n 0 rfl dJ0_indexOf_0f7a4_0 ?_
  refine ya_iload_n 1 rfl dJ0_indexOf_0f7a4_1 ?_
  refine ya_iconst 0 (by decide) dJ0_indexOf_0f7a4_2 ?_
  refine ya_callK (S := []) hs (c_J0_indexOf2 hs h0 h1 hc hp) rfl m_J0_indexOf_7cf53 ⟨rfl, rfl⟩ ml_J0_633 rfl ⟨Nat.le_of_ble_eq_true rfl, Nat.le_of_ble_eq_true rfl⟩ (Nat.le_of_ble_eq_true rfl) ⟨Nat.le_refl _, Nat.le_refl _⟩ dJ0_indexOf_0f7a4_3 rfl ?_
  exact ya_iret rfl rfl rfl rfl rfl (Nat.le_refl _) dJ0_indexOf_0f7a4_6
theorem ya_kpos : ∀ i, i < ya_kN → 0 < ya_klen.getD i 0 := by decide +kernel
/-- Arrays.fill over a row of numbers -/
theorem c_J7_fillI {a na : Nat} {v : Int32} (hs : G.2.1 a = (20, na)) (ha : a < G.1) (hna : na < 2 ^ 31) : ya_Ct X yJ7_fill_53178 Y_J7_fill_53178 [.ref (X.2.1 + a), .int v] G d (none, G, (fun a' k => if a' = a ∧ k < na then v else d.1 a' k, d.2)) := by
  refine ya_ct (by decide +kernel) rfl rfl (Nat.le_of_ble_eq_true rfl) ?_
  show ya_E X Y_J7_fill_53178 (ya_M X (none, G, (fun a' k => if a' = a ∧ k < na then v else d.1 a' k, d.2)) 0 0) 0 [(0, .ref (X.2.1 + a)), (1, .int v)] [] G d 0 0
  refine ya_iconst 0 (by decide) dJ7_fill_53178_0 ?_
  refine ya_istore_n [(2, .int 0), (0, .ref (X.2.1 + a)), (1, .int v)] (by decide) rfl dJ7_fill_53178_1 ?_
  refine ya_aload_n 1 rfl dJ7_fill_53178_2 ?_
  refine ya_alen (v := nI na) hs (by decide) (by decide) ha rfl dJ7_fill_53178_3 ?_
  refine ya_istore_n [(3, .int (nI na)), (2, .int 0), (0, .ref (X.2.1 + a)), (1, .int v)] (by decide) rfl dJ7_fill_53178_4 ?_
  have loop : ∀ (z j : Nat), j + z = na → ya_E X Y_J7_fill_53178 (ya_M X (none, G, (fun a' k => if a' = a ∧ k < na then v else d.1 a' k, d.2)) 0 0) 5 [(0, .ref (X.2.1 + a)), (1, .int v), (2, .int (nI j)), (3, .int (nI na))] [] G (fun a' k => if a' = a ∧ k < j then v else d.1 a' k, d.2) 0 0 := by
    intro z
    induction z with
    | zero =>
      intro j hj
      obtain rfl : j = na := by omega
      refine ya_iload_n 2 rfl dJ7_fill_53178_5 ?_
      refine ya_iload_n 3 rfl dJ7_fill_53178_6 ?_
      refine ya_icmp_ge 20 (by decide) dJ7_fill_53178_7 (fun _ => ?_) (fun q => absurd (nI_le (Nat.le_refl _) hna) q)
      exact ya_vret rfl rfl rfl rfl rfl (Nat.le_refl _) dJ7_fill_53178_20
    | succ z ih =>
      intro j hj
      refine ya_iload_n 2 rfl dJ7_fill_53178_5 ?_
      refine ya_iload_n 3 rfl dJ7_fill_53178_6 ?_
      refine ya_icmp_ge 20 (by decide) dJ7_fill_53178_7 (fun q => absurd q (nI_ge (by omega) hna)) (fun _ => ?_)
      refine ya_aload_n 0 rfl dJ7_fill_53178_10 ?_
      refine ya_iload_n 2 rfl dJ7_fill_53178_11 ?_
      refine ya_iload_n 1 rfl dJ7_fill_53178_12 ?_
      refine ya_iast (f := some) (rr := (fun a' k => if a' = a ∧ k < j + 1 then v else d.1 a' k, d.2)) hs ha dJ7_fill_53178_13 ?_ (fun d' h => ?_)
      · unfold ya_wI
        rw [if_neg (nI_in (by omega) hna), nI_clamp (by omega)]
        simp only [Option.bind_some, ya_sI, Option.some.injEq, Prod.mk.injEq, and_true]
        funext a' k
        by_cases h1 : a' = a
        · subst h1
          by_cases h2 : k = j
          · subst h2; simp
          · by_cases h3 : k < j
            · simp [h2, h3, show k < j + 1 by omega]
            · simp [h2, h3, show ¬ k < j + 1 by omega]
        · simp [h1]
      · cases h
        refine ya_iinc (nI (j + 1)) (nI_succ j).symm 2 rfl [(2, .int (nI (j + 1))), (0, .ref (X.2.1 + a)), (1, .int v), (3, .int (nI na))] (by decide) rfl dJ7_fill_53178_14 ?_
        refine ya_goto 5 (by decide) dJ7_fill_53178_17 ?_
        refine ya_sub [(0, .ref (X.2.1 + a)), (1, .int v), (2, .int (nI (j + 1))), (3, .int (nI na))] [1, 2, 0, 3] rfl ?_
        exact ih (j + 1) (by omega)
  refine ya_sub [(0, .ref (X.2.1 + a)), (1, .int v), (2, .int (nI 0)), (3, .int (nI na))] [2, 3, 1, 0] rfl ?_
  have h0 : ((fun a' k => if a' = a ∧ k < 0 then v else d.1 a' k), d.2) = d := by
    have : (fun a' k => if a' = a ∧ k < 0 then v else d.1 a' k) = d.1 := by
      funext a' k
      simp
    rw [this]
  have := loop na 0 (by omega)
  rw [h0] at this
  exact this
theorem c_J7_fillL {a na : Nat} {v : Int64} (hs : G.2.1 a = (24, na)) (ha : a < G.1) (hna : na < 2 ^ 31) : ya_Ct X yJ7_fill_d0a16 Y_J7_fill_d0a16 [.ref (X.2.1 + a), .long v] G d (none, G, (d.1, fun a' k => if a' = a ∧ k < na then v else d.2 a' k)) := by
  refine ya_ct (by decide +kernel) rfl rfl (Nat.le_of_ble_eq_true rfl) ?_
  show ya_E X Y_J7_fill_d0a16 (ya_M X (none, G, (d.1, fun a' k => if a' = a ∧ k < na then v else d.2 a' k)) 0 0) 0 [(0, .ref (X.2.1 + a)), (1, .long v)] [] G d 0 0
  refine ya_iconst 0 (by decide) dJ7_fill_d0a16_0 ?_
  refine ya_istore_n [(3, .int 0), (0, .ref (X.2.1 + a)), (1, .long v)] (by decide) rfl dJ7_fill_d0a16_1 ?_
  refine ya_aload_n 1 rfl dJ7_fill_d0a16_2 ?_
  refine ya_alen (v := nI na) hs (by decide) (by decide) ha rfl dJ7_fill_d0a16_3 ?_
  refine ya_istore [(4, .int (nI na)), (3, .int 0), (0, .ref (X.2.1 + a)), (1, .long v)] (by decide) rfl dJ7_fill_d0a16_4 ?_
  have loop : ∀ (z j : Nat), j + z = na → ya_E X Y_J7_fill_d0a16 (ya_M X (none, G, (d.1, fun a' k => if a' = a ∧ k < na then v else d.2 a' k)) 0 0) 6 [(0, .ref (X.2.1 + a)), (1, .long v), (3, .int (nI j)), (4, .int (nI na))] [] G (d.1, fun a' k => if a' = a ∧ k < j then v else d.2 a' k) 0 0 := by
    intro z
    induction z with
    | zero =>
      intro j hj
      obtain rfl : j = na := by omega
      refine ya_iload_n 2 rfl dJ7_fill_d0a16_6 ?_
      refine ya_iload 3 rfl dJ7_fill_d0a16_7 ?_
      refine ya_icmp_ge 22 (by decide) dJ7_fill_d0a16_9 (fun _ => ?_) (fun q => absurd (nI_le (Nat.le_refl _) hna) q)
      exact ya_vret rfl rfl rfl rfl rfl (Nat.le_refl _) dJ7_fill_d0a16_22
    | succ z ih =>
      intro j hj
      refine ya_iload_n 2 rfl dJ7_fill_d0a16_6 ?_
      refine ya_iload 3 rfl dJ7_fill_d0a16_7 ?_
      refine ya_icmp_ge 22 (by decide) dJ7_fill_d0a16_9 (fun q => absurd q (nI_ge (by omega) hna)) (fun _ => ?_)
      refine ya_aload_n 0 rfl dJ7_fill_d0a16_12 ?_
      refine ya_iload_n 2 rfl dJ7_fill_d0a16_13 ?_
      refine ya_lload_n 1 rfl dJ7_fill_d0a16_14 ?_
      refine ya_last (f := some) (rr := (d.1, fun a' k => if a' = a ∧ k < j + 1 then v else d.2 a' k)) hs ha dJ7_fill_d0a16_15 ?_ (fun d' h => ?_)
      · unfold ya_wL
        rw [if_neg (nI_in (by omega) hna), nI_clamp (by omega)]
        simp only [Option.bind_some, ya_sL, Option.some.injEq, Prod.mk.injEq, true_and]
        funext a' k
        by_cases h1 : a' = a
        · subst h1
          by_cases h2 : k = j
          · subst h2; simp
          · by_cases h3 : k < j
            · simp [h2, h3, show k < j + 1 by omega]
            · simp [h2, h3, show ¬ k < j + 1 by omega]
        · simp [h1]
      · cases h
        refine ya_iinc (nI (j + 1)) (nI_succ j).symm 2 rfl [(3, .int (nI (j + 1))), (0, .ref (X.2.1 + a)), (1, .long v), (4, .int (nI na))] (by decide) rfl dJ7_fill_d0a16_16 ?_
        refine ya_goto 6 (by decide) dJ7_fill_d0a16_19 ?_
        refine ya_sub [(0, .ref (X.2.1 + a)), (1, .long v), (3, .int (nI (j + 1))), (4, .int (nI na))] [1, 2, 0, 3] rfl ?_
        exact ih (j + 1) (by omega)
  refine ya_sub [(0, .ref (X.2.1 + a)), (1, .long v), (3, .int (nI 0)), (4, .int (nI na))] [2, 3, 1, 0] rfl ?_
  have h0 : (d.1, (fun a' k => if a' = a ∧ k < 0 then v else d.2 a' k)) = d := by
    have : (fun a' k => if a' = a ∧ k < 0 then v else d.2 a' k) = d.2 := by
      funext a' k
      simp
    rw [this]
  have := loop na 0 (by omega)
  rw [h0] at this
  exact this
end
section
variable {X : ya_X} {Y : ya_Y} {Γ : ya_Γ} {pc : Nat} {L : List (Nat × Value)} {S : List Value} {G : ya_G} {d : ya_D} {k n : Nat}
theorem ya_fillI {a na i : Nat} {v : Int32} {γ : Type} {f : ya_D → Option γ} {rr : γ} (hs : G.2.1 a = (20, na)) (hna : na < 2 ^ 31) (ha : a < G.1) (hlk : Cond.methodLink Y.2.1 i ⟨"java/util/Arrays", "fill", "([II)V"⟩ ∈ lw_g) (hfr : 1 ≤ Y.2.2.2.2.2.frames) (hlo : 24 ≤ Y.2.2.2.2.2.locals) (hcat : (S.map fun v => v.category).sum ≤ 8) (hd : decode Y.1 pc = .ok (.invokestatic i, 3)) (h : (ya_fI d a na v).bind f = some rr)
    (hkn : k ≤ Y.2.2.2.2.2.cells ∧ n ≤ Y.2.2.2.2.2.slots) (kk : ∀ d', f d' = some rr → ya_E X Y Γ (pc + 3) L S G d' k n) : ya_E X Y Γ pc L (.int v :: .ref (X.2.1 + a) :: S) G d k n :=
  ya_callSv (S := S) (c_J7_fillI hs ha hna) m_J7_fill_53178 ⟨rfl, rfl⟩ hlk rfl ⟨hfr, by show 8 + (4 + 11) + 0 ≤ _; omega⟩ hcat hkn hd rfl (kk _ h)
theorem ya_fillL {a na i : Nat} {v : Int64} {γ : Type} {f : ya_D → Option γ} {rr : γ} (hs : G.2.1 a = (24, na)) (hna : na < 2 ^ 31) (ha : a < G.1) (hlk : Cond.methodLink Y.2.1 i ⟨"java/util/Arrays", "fill", "([JJ)V"⟩ ∈ lw_g) (hfr : 1 ≤ Y.2.2.2.2.2.frames) (hlo : 24 ≤ Y.2.2.2.2.2.locals) (hcat : (S.map fun v => v.category).sum ≤ 8) (hd : decode Y.1 pc = .ok (.invokestatic i, 3)) (h : (ya_fL d a na v).bind f = some rr)
    (hkn : k ≤ Y.2.2.2.2.2.cells ∧ n ≤ Y.2.2.2.2.2.slots) (kk : ∀ d', f d' = some rr → ya_E X Y Γ (pc + 3) L S G d' k n) : ya_E X Y Γ pc L (.long v :: .ref (X.2.1 + a) :: S) G d k n :=
  ya_callSv (S := S) (c_J7_fillL hs ha hna) m_J7_fill_d0a16 ⟨rfl, rfl⟩ hlk rfl ⟨hfr, by show 8 + (5 + 11) + 0 ≤ _; omega⟩ hcat hkn hd rfl (kk _ h)
theorem ya_str_length {i s0 : Nat} {γ : Type} {f : Int32 → Option γ} {rr : γ} (hlk : Cond.methodLink Y.2.1 i ⟨"java/lang/String", "length", "()I"⟩ ∈ lw_g) (hfr : 2 ≤ Y.2.2.2.2.2.frames) (hlo : 40 ≤ Y.2.2.2.2.2.locals) (hcat : (S.map fun v => v.category).sum ≤ 8) (hkn : k ≤ Y.2.2.2.2.2.cells ∧ n ≤ Y.2.2.2.2.2.slots) (hd : decode Y.1 pc = .ok (.invokevirtual i, 3)) (h : (ya_sl s0).bind f = some rr)
    (kk : ∀ x, f x = some rr → ya_E X Y Γ (pc + 3) L (.int x :: S) G d k n) : ya_E X Y Γ pc L (.ref (X.2.2.2.2.2.2.1 s0) :: S) G d k n := by
  unfold ya_sl at h
  by_cases hs : s0 < ya_kN
  · rw [if_pos hs] at h
    exact ya_callK (S := S) hs (c_J0_length hs) rfl m_J0_length_8abf5 ⟨rfl, rfl⟩ hlk rfl ⟨hfr, by show 8 + (1 + 11) + 20 ≤ _; omega⟩ hcat hkn hd rfl (kk _ h)
  · rw [if_neg hs] at h; cases h
theorem ya_str_charAt {i s0 : Nat} {j : Int32} {γ : Type} {f : Int32 → Option γ} {rr : γ} (hlk : Cond.methodLink Y.2.1 i ⟨"java/lang/String", "charAt", "(I)C"⟩ ∈ lw_g) (hfr : 4 ≤ Y.2.2.2.2.2.frames) (hlo : 85 ≤ Y.2.2.2.2.2.locals) (hcat : (S.map fun v => v.category).sum ≤ 8) (hkn : k ≤ Y.2.2.2.2.2.cells ∧ n ≤ Y.2.2.2.2.2.slots) (hd : decode Y.1 pc = .ok (.invokevirtual i, 3)) (h : (ya_sc s0 j).bind f = some rr)
    (kk : ∀ x, f x = some rr → ya_E X Y Γ (pc + 3) L (.int x :: S) G d k n) : ya_E X Y Γ pc L (.int j :: .ref (X.2.2.2.2.2.2.1 s0) :: S) G d k n := by
  unfold ya_sc at h
  by_cases hs : s0 < ya_kN ∧ ¬ (j < 0 ∨ ya_klen.getD s0 0 ≤ j.toNatClampNeg)
  · rw [if_pos hs] at h
    exact ya_callK (S := S) hs.1 (c_J0_charAt hs.1 hs.2) rfl m_J0_charAt_5068e ⟨rfl, rfl⟩ hlk rfl ⟨hfr, by show 8 + (2 + 11) + 64 ≤ _; omega⟩ hcat hkn hd rfl (kk _ h)
  · rw [if_neg hs] at h; cases h
theorem ya_str_indexOf {i s0 : Nat} {j : Int32} {γ : Type} {f : Int32 → Option γ} {rr : γ} (hlk : Cond.methodLink Y.2.1 i ⟨"java/lang/String", "indexOf", "(I)I"⟩ ∈ lw_g) (hfr : 4 ≤ Y.2.2.2.2.2.frames) (hlo : 91 ≤ Y.2.2.2.2.2.locals) (hcat : (S.map fun v => v.category).sum ≤ 8) (hkn : k ≤ Y.2.2.2.2.2.cells ∧ n ≤ Y.2.2.2.2.2.slots) (hd : decode Y.1 pc = .ok (.invokevirtual i, 3)) (h : (ya_sx s0 j).bind f = some rr)
    (kk : ∀ x, f x = some rr → ya_E X Y Γ (pc + 3) L (.int x :: S) G d k n) : ya_E X Y Γ pc L (.int j :: .ref (X.2.2.2.2.2.2.1 s0) :: S) G d k n := by
  unfold ya_sx at h
  by_cases hs : s0 < ya_kN ∧ ¬ (j < 0 ∨ (128 : Int32) ≤ j)
  · rw [if_pos hs] at h
    obtain ⟨z, hz, rfl⟩ := nI_of (fun q => hs.2 (Or.inl q))
    have h3 : z < 128 := by
      have h4 : ¬ nI 128 ≤ nI z := fun q => hs.2 (Or.inr q)
      by_cases h5 : z < 128
      · exact h5
      · exact absurd (nI_le (by omega) hz) h4
    exact ya_callK (S := S) hs.1 (c_J0_indexOf hs.1 (fun q => hs.2 (Or.inl q)) (nI_le (a := z) (b := 255) (by omega) (by omega)) (ya_c128 z h3) (ya_kpos _ hs.1)) rfl m_J0_indexOf_0f7a4 ⟨rfl, rfl⟩ hlk rfl ⟨hfr, by show 8 + (2 + 11) + 70 ≤ _; omega⟩ hcat hkn hd rfl (kk _ h)
  · rw [if_neg hs] at h; cases h
end
theorem ya_nmI {X : ya_X} {Y : ya_Y} {Γ : ya_Γ} {pc : Nat} {L : List (Nat × Value)} {S : List Value} {G : ya_G} {d : ya_D} {k n : Nat} {e v : Int32} (hv : some e = some v) (kk : ya_E X Y Γ pc L (.int v :: S) G d k n) : ya_E X Y Γ pc L (.int e :: S) G d k n := by
  cases hv
  exact kk
